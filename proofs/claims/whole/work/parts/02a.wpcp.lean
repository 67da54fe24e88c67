def wp_X6_own_0 (M : cM) (L : cL) (p1 : Int32) (p2 : Int64) (p4 : Int64) (Z : cM → cL → Prop) : Prop :=
  ∀ M1 : cM, M1 = mu M 0 9 p1 →
 ∀ L2 : cL, L2 = ml L 0 10 p2 →
 ∀ L3 : cL, L3 = ml L2 0 11 p4 →
 Z M1 L3

def wp_X6_ways_0 (M : cM) (L : cL) (p1 : Int32) (p2 : Int32) (Z : cM → Prop) : Prop :=
  (isB p1 ∧
 ∀ M1 : cM, M1 = mu M 0 14 p1 →
 (isB p2 ∧
 ∀ M2 : cM, M2 = mu M1 0 15 p2 →
 Z M2))

def wp_X3_clear_5 (M : cM) (L : cL)  (Z : cM → Prop) : Prop :=
  ∀ M1 : cM, M1 = mu M 5 3 (0 : Int32) →
 ∀ M2 : cM, M2 = mu M1 6 1 (0 : Int32) →
 Z M2

def wp_X4_at_1 (M : cM) (L : cL) (p1 : Int32) (Z : Int32 → Prop) : Prop :=
  ((p1 < 0 →
 Z (0 : Int32)) ∧
 (¬ p1 < 0 →
 (((2400 : Int32) ≤ p1 →
 Z (0 : Int32)) ∧
 (¬ (2400 : Int32) ≤ p1 →
 (vp_in p1 2400 ∧
 Z ((M 2 p1.toNatClampNeg) &&& (255 : Int32)))))))

def wp_X4_word_1 (M : cM) (L : cL) (p1 : Int32) (Z : Int32 → Prop) : Prop :=
  ((p1 < 0 →
 Z (0 : Int32)) ∧
 (¬ p1 < 0 →
 ((((2400 : Int32) - (1 : Int32)) ≤ p1 →
 Z (0 : Int32)) ∧
 (¬ ((2400 : Int32) - (1 : Int32)) ≤ p1 →
 (vp_in p1 2400 ∧
 (vp_in (p1 + (1 : Int32)) 2400 ∧
 Z ((((M 2 p1.toNatClampNeg) &&& (255 : Int32)) <<< ((8 : Int32) &&& 31)) ||| ((M 2 (p1 + (1 : Int32)).toNatClampNeg) &&& (255 : Int32)))))))))

def wp_X4_number_1 (M : cM) (L : cL) (p1 : Int32) (p2 : Int32) (Z : Int64 → Prop) : Prop :=
  ∃ (I5 : Int64 → Int32 → Prop) (m5 : Int64 → Int32 → Nat), I5 (0 : Int64) (0 : Int32) ∧ ∀ (x1 : Int64) (x2 : Int32), I5 x1 x2 →
 ((p2 ≤ x2 →
 Z x1) ∧
 (¬ p2 ≤ x2 →
 wp_X4_at_1 M L (p1 + x2) (fun (r4 : Int32) =>
 ∀ x5 : Int64, x5 = ((x1 <<< ((8 : Int32).toInt64 &&& 63)) ||| (r4.toInt64)) →
 ∀ x6 : Int32, x6 = (x2 + (1 : Int32)) →
 (I5 x5 x6 ∧ m5 x5 x6 < m5 x1 x2))))

def wp_X4_sum_1 (M : cM) (L : cL) (p1 : Int32) (p2 : Int32) (Z : Int64 → Prop) : Prop :=
  ∃ (I5 : Int64 → Int32 → Prop) (m5 : Int64 → Int32 → Nat), I5 (0 : Int64) p1 ∧ ∀ (x1 : Int64) (x2 : Int32), I5 x1 x2 →
 ((p2 ≤ x2 →
 Z x1) ∧
 (¬ p2 ≤ x2 →
 wp_X4_at_1 M L x2 (fun (r4 : Int32) =>
 (∃ K41 : Int64 → Prop, (∀ (v5 : Int64), K41 v5 →
 ∀ x6 : Int64, x6 = (x1 + v5) →
 ∀ x7 : Int32, x7 = (x2 + (1 : Int32)) →
 (I5 x6 x7 ∧ m5 x6 x7 < m5 x1 x2)) ∧
 ((¬ ((x2 - p1) &&& (1 : Int32)) = 0 →
 K41 (r4.toInt64)) ∧
 (((x2 - p1) &&& (1 : Int32)) = 0 →
 K41 ((r4 <<< ((8 : Int32) &&& 31)).toInt64)))))))

def wp_X0_read_11_1 (M : cM) (L : cL) (p2 : Int32) (p3 : Int32) (Z : Int32 → cM → cL → Prop) : Prop :=
  wp_X4_at_1 M L p2 (fun (r1 : Int32) =>
 ∀ M2 : cM, M2 = mu M 11 14 ((r1 &&& (15 : Int32)) * (4 : Int32)) →
 wp_X4_word_1 M2 L (p2 + (2 : Int32)) (fun (r3 : Int32) =>
 ∀ M4 : cM, M4 = mu M2 11 15 r3 →
 (∃ K52 : Int32 → Prop, (∀ (v5 : Int32), K52 v5 →
 ((v5 = 0 →
 Z (0 : Int32) M4 L) ∧
 (¬ v5 = 0 →
 ((¬ (r1 >>> ((4 : Int32) &&& 31)) = (4 : Int32) →
 Z (0 : Int32) M4 L) ∧
 ((r1 >>> ((4 : Int32) &&& 31)) = (4 : Int32) →
 (((M4 11 14) < (20 : Int32) →
 Z (0 : Int32) M4 L) ∧
 (¬ (M4 11 14) < (20 : Int32) →
 (((M4 11 14) ≤ (M4 11 15) →
 ∀ M10 : cM, M10 = mu M4 11 0 p2 →
 wp_X4_at_1 M10 L (p2 + (1 : Int32)) (fun (r11 : Int32) =>
 ∀ M12 : cM, M12 = mu M10 11 1 r11 →
 wp_X4_word_1 M12 L (p2 + (4 : Int32)) (fun (r13 : Int32) =>
 ∀ M14 : cM, M14 = mu M12 11 4 r13 →
 wp_X4_word_1 M14 L (p2 + (6 : Int32)) (fun (r15 : Int32) =>
 (∃ K141 : Int32 → Prop, (∀ (v16 : Int32), K141 v16 →
 (isB v16 ∧
 ∀ M17 : cM, M17 = mu M14 11 16 v16 →
 (∃ K159 : Int32 → Prop, (∀ (v18 : Int32), K159 v18 →
 (isB v18 ∧
 ∀ M19 : cM, M19 = mu M17 11 5 v18 →
 ∀ M20 : cM, M20 = mu M19 11 6 (r15 &&& (8191 : Int32)) →
 wp_X4_at_1 M20 L (p2 + (8 : Int32)) (fun (r21 : Int32) =>
 ∀ M22 : cM, M22 = mu M20 11 2 r21 →
 wp_X4_at_1 M22 L (p2 + (9 : Int32)) (fun (r23 : Int32) =>
 ∀ M24 : cM, M24 = mu M22 11 3 r23 →
 wp_X4_number_1 M24 L (p2 + (12 : Int32)) (4 : Int32) (fun (r25 : Int64) =>
 ∀ M26 : cM, M26 = mu M24 11 10 (r25.toInt32) →
 wp_X4_number_1 M26 L (p2 + (16 : Int32)) (4 : Int32) (fun (r27 : Int64) =>
 ∀ M28 : cM, M28 = mu M26 11 11 (r27.toInt32) →
 wp_X4_sum_1 M28 L (p2 + (12 : Int32)) (p2 + (20 : Int32)) (fun (r29 : Int64) =>
 ∀ L30 : cL, L30 = ml L 11 12 r29 →
 ∀ M31 : cM, M31 = mu M28 11 7 (p2 + (M28 11 14)) →
 ∀ M32 : cM, M32 = mu M31 11 8 ((M31 11 15) - (M31 11 14)) →
 ∀ M33 : cM, M33 = mu M32 11 9 ((if (p2 + (M32 11 15)) < p3 then (p2 + (M32 11 15)) else p3) - (M32 11 7)) →
 Z (1 : Int32) M33 L30))))))) ∧
 (((r15 &&& (8192 : Int32)) = 0 →
 K159 (0 : Int32)) ∧
 (¬ (r15 &&& (8192 : Int32)) = 0 →
 K159 (1 : Int32)))))) ∧
 (((r15 &&& (16384 : Int32)) = 0 →
 K141 (0 : Int32)) ∧
 (¬ (r15 &&& (16384 : Int32)) = 0 →
 K141 (1 : Int32)))))))) ∧
 (¬ (M4 11 14) ≤ (M4 11 15) →
 Z (0 : Int32) M4 L))))))))) ∧
 ∃ K51 : Prop, (K51  →
 K52 (0 : Int32)) ∧
 (((p3 - p2) < (20 : Int32) →
 K51) ∧
 (¬ (p3 - p2) < (20 : Int32) →
 (((p3 - p2) < (M4 11 14) →
 K51) ∧
 (¬ (p3 - p2) < (M4 11 14) →
 K52 (1 : Int32))))))))

def wp_X6_folded (M : cM) (L : cL) (p0 : Int64) (Z : Int32 → Prop) : Prop :=
  ∃ (I5 : Int64 → Int32 → Prop) (m5 : Int64 → Int32 → Nat), I5 p0 (0 : Int32) ∧ ∀ (x1 : Int64) (x2 : Int32), I5 x1 x2 →
 (((8 : Int32) ≤ x2 →
 Z (x1.toInt32)) ∧
 (¬ (8 : Int32) ≤ x2 →
 (((lg_cmp x1 (65535 : Int64)) ≤ 0 →
 Z (x1.toInt32)) ∧
 (¬ (lg_cmp x1 (65535 : Int64)) ≤ 0 →
 ∀ x5 : Int64, x5 = ((x1 &&& (65535 : Int64)) + ((x1.toUInt64 >>> ((16 : Int32).toInt64.toUInt64 &&& Int64.toUInt64 63)).toInt64)) →
 ∀ x6 : Int32, x6 = (x2 + (1 : Int32)) →
 (I5 x5 x6 ∧ m5 x5 x6 < m5 x1 x2)))))

def wp_X0_readOptions_11_1 (M : cM) (L : cL)  (Z : Int32 → cM → Prop) : Prop :=
  ∀ x1 : Int32, x1 = ((M 11 0) + (M 11 14)) →
 ∀ x2 : Int32, x2 = ((M 11 0) + (20 : Int32)) →
 ∀ M3 : cM, M3 = mu M 11 17 (0 : Int32) →
 ∃ (I26 : Int32 → Int32 → cM → Prop) (m26 : Int32 → Int32 → cM → Nat), I26 x2 (0 : Int32) M3 ∧ ∀ (x4 : Int32) (x5 : Int32) (M6 : cM), I26 x4 x5 M6 →
 (((M6 11 14) ≤ x5 →
 Z (1 : Int32) M6) ∧
 (¬ (M6 11 14) ≤ x5 →
 ((x1 ≤ x4 →
 Z (1 : Int32) M6) ∧
 (¬ x1 ≤ x4 →
 wp_X4_at_1 M6 L x4 (fun (r9 : Int32) =>
 ((¬ r9 = 0 →
 (∃ K82 : Int32 → Prop, (∀ (v11 : Int32), K82 v11 →
 ((v11 < (1 : Int32) →
 Z (0 : Int32) M6) ∧
 (¬ v11 < (1 : Int32) →
 (∃ K102 : Prop, (K102  →
 (((x4 + v11) ≤ x1 →
 (∃ K133 : Int32 → Prop, (∀ (v14 : Int32), K133 v14 →
 (∃ K163 : cM → Prop, (∀ (M15 : cM), K163 M15 →
 ∀ x16 : Int32, x16 = (x4 + v11) →
 ∀ x17 : Int32, x17 = (x5 + (1 : Int32)) →
 (I26 x16 x17 M15 ∧ m26 x16 x17 M15 < m26 x4 x5 M6)) ∧
 ((v14 = 0 →
 K163 M6) ∧
 (¬ v14 = 0 →
 ((v11 < (3 : Int32) →
 K163 M6) ∧
 (¬ v11 < (3 : Int32) →
 wp_X4_at_1 M6 L (x4 + (2 : Int32)) (fun (r20 : Int32) =>
 ((v11 < r20 →
 K163 M6) ∧
 (¬ v11 < r20 →
 ∀ M22 : cM, M22 = mu M6 11 17 (1 : Int32) →
 K163 M22))))))))) ∧
 ∃ K128 : Prop, (K128  →
 K133 (1 : Int32)) ∧
 ((r9 = (131 : Int32) →
 K128) ∧
 (¬ r9 = (131 : Int32) →
 ((¬ r9 = (137 : Int32) →
 K133 (0 : Int32)) ∧
 (r9 = (137 : Int32) →
 K128)))))) ∧
 (¬ (x4 + v11) ≤ x1 →
 Z (0 : Int32) M6))) ∧
 (((2 : Int32) ≤ v11 →
 K102) ∧
 (¬ (2 : Int32) ≤ v11 →
 ((¬ r9 = (1 : Int32) →
 Z (0 : Int32) M6) ∧
 (r9 = (1 : Int32) →
 K102)))))))) ∧
 ((¬ r9 = (1 : Int32) →
 ((x1 ≤ (x4 + (1 : Int32)) →
 K82 (0 : Int32)) ∧
 (¬ x1 ≤ (x4 + (1 : Int32)) →
 wp_X4_at_1 M6 L (x4 + (1 : Int32)) (fun (r29 : Int32) =>
 K82 r29)))) ∧
 (r9 = (1 : Int32) →
 K82 (1 : Int32))))) ∧
 (r9 = 0 →
 Z (1 : Int32) M6)))))))

def wp_X2_fragment_11 (M : cM) (L : cL)  (Z : Int32 → Prop) : Prop :=
  ((¬ (M 11 5) = 0 →
 Z (1 : Int32)) ∧
 ((M 11 5) = 0 →
 (((M 11 6) = 0 →
 Z (0 : Int32)) ∧
 (¬ (M 11 6) = 0 →
 Z (1 : Int32)))))

def wp_X2_endsTooFar_11 (M : cM) (L : cL)  (Z : Int32 → Prop) : Prop :=
  wp_X2_fragment_11 M L  (fun (r1 : Int32) =>
 ((r1 = 0 →
 Z (0 : Int32)) ∧
 (¬ r1 = 0 →
 (((((M 11 6) * (8 : Int32)) + (M 11 8)) ≤ (65535 : Int32) →
 Z (0 : Int32)) ∧
 (¬ (((M 11 6) * (8 : Int32)) + (M 11 8)) ≤ (65535 : Int32) →
 Z (1 : Int32))))))

def wp_X0_readWhole_11_1 (M : cM) (L : cL)  (Z : Int32 → cM → cL → Prop) : Prop :=
  wp_X0_read_11_1 M L (0 : Int32) (M 1 1) (fun (r1 : Int32) (M2 : cM) (L3 : cL) =>
 ((r1 = 0 →
 Z (0 : Int32) M2 L3) ∧
 (¬ r1 = 0 →
 (((M2 1 1) < (M2 11 15) →
 Z (0 : Int32) M2 L3) ∧
 (¬ (M2 1 1) < (M2 11 15) →
 wp_X4_sum_1 M2 L3 (0 : Int32) (M2 11 14) (fun (r6 : Int64) =>
 wp_X6_folded M2 L3 r6 (fun (r7 : Int32) =>
 ((¬ r7 = (65535 : Int32) →
 Z (0 : Int32) M2 L3) ∧
 (r7 = (65535 : Int32) →
 wp_X0_readOptions_11_1 M2 L3  (fun (r9 : Int32) (M10 : cM) =>
 ((r9 = 0 →
 Z (0 : Int32) M10 L3) ∧
 (¬ r9 = 0 →
 wp_X2_endsTooFar_11 M10 L3  (fun (r12 : Int32) =>
 ((¬ r12 = 0 →
 Z (0 : Int32) M10 L3) ∧
 (r12 = 0 →
 Z (1 : Int32) M10 L3)))))))))))))))

def wp_X1_mappable_10 (M : cM) (L : cL) (p1 : Int32) (Z : Int32 → Prop) : Prop :=
  ∀ x1 : Int32, x1 = ((p1.toUInt32 >>> ((24 : Int32).toUInt32 &&& Int32.toUInt32 31)).toInt32) →
 ((x1 = 0 →
 Z (0 : Int32)) ∧
 (¬ x1 = 0 →
 ((x1 = (127 : Int32) →
 Z (0 : Int32)) ∧
 (¬ x1 = (127 : Int32) →
 (((224 : Int32) ≤ x1 →
 Z (0 : Int32)) ∧
 (¬ (224 : Int32) ≤ x1 →
 ((¬ ((p1.toUInt32 >>> ((16 : Int32).toUInt32 &&& Int32.toUInt32 31)).toInt32) = (43518 : Int32) →
 (∃ K67 : Int32 → Prop, (∀ (v6 : Int32), K67 v6 →
 (∃ K98 : Int32 → Prop, (∀ (v7 : Int32), K98 v7 →
 ((v6 = 0 →
 Z (1 : Int32)) ∧
 (¬ v6 = 0 →
 ((¬ v7 = 0 →
 Z (0 : Int32)) ∧
 (v7 = 0 →
 Z (1 : Int32)))))) ∧
 ∃ K93 : Prop, (K93  →
 K98 (1 : Int32)) ∧
 ((x1 = (10 : Int32) →
 K93) ∧
 (¬ x1 = (10 : Int32) →
 ((((p1.toUInt32 >>> ((20 : Int32).toUInt32 &&& Int32.toUInt32 31)).toInt32) = (2753 : Int32) →
 K93) ∧
 (¬ ((p1.toUInt32 >>> ((20 : Int32).toUInt32 &&& Int32.toUInt32 31)).toInt32) = (2753 : Int32) →
 ((¬ ((p1.toUInt32 >>> ((16 : Int32).toUInt32 &&& Int32.toUInt32 31)).toInt32) = (49320 : Int32) →
 K98 (0 : Int32)) ∧
 (((p1.toUInt32 >>> ((16 : Int32).toUInt32 &&& Int32.toUInt32 31)).toInt32) = (49320 : Int32) →
 K93)))))))) ∧
 ∃ K66 : Prop, (K66  →
 K67 (0 : Int32)) ∧
 ((¬ (lg_cmp (L 10 0) (28428538856079360 : Int64)) = 0 →
 K66) ∧
 ((lg_cmp (L 10 0) (28428538856079360 : Int64)) = 0 →
 ((¬ (lg_cmp (L 10 1) (0 : Int64)) = 0 →
 K66) ∧
 ((lg_cmp (L 10 1) (0 : Int64)) = 0 →
 ((¬ (M 10 2) = (96 : Int32) →
 K66) ∧
 ((M 10 2) = (96 : Int32) →
 K67 (1 : Int32))))))))) ∧
 (((p1.toUInt32 >>> ((16 : Int32).toUInt32 &&& Int32.toUInt32 31)).toInt32) = (43518 : Int32) →
 Z (0 : Int32)))))))))

def wp_X6_neverFromEither (M : cM) (L : cL) (p0 : Int32) (Z : Int32 → Prop) : Prop :=
  ((p0 = 0 →
 Z (1 : Int32)) ∧
 (¬ p0 = 0 →
 ((p0 = (2 : Int32) →
 Z (1 : Int32)) ∧
 (¬ p0 = (2 : Int32) →
 ((p0 = (43 : Int32) →
 Z (1 : Int32)) ∧
 (¬ p0 = (43 : Int32) →
 ((p0 = (44 : Int32) →
 Z (1 : Int32)) ∧
 (¬ p0 = (44 : Int32) →
 ((p0 = (59 : Int32) →
 Z (1 : Int32)) ∧
 (¬ p0 = (59 : Int32) →
 ((¬ p0 = (60 : Int32) →
 Z (0 : Int32)) ∧
 (p0 = (60 : Int32) →
 Z (1 : Int32)))))))))))))

def wp_X6_neverFromFour (M : cM) (L : cL) (p0 : Int32) (Z : Int32 → Prop) : Prop :=
  wp_X6_neverFromEither M L p0 (fun (r1 : Int32) =>
 ((¬ r1 = 0 →
 Z (1 : Int32)) ∧
 (r1 = 0 →
 ((¬ p0 = (58 : Int32) →
 Z (0 : Int32)) ∧
 (p0 = (58 : Int32) →
 Z (1 : Int32))))))

def wp_X6_faultOfTransport_0_11 (M : cM) (L : cL) (p2 : Int32) (Z : Int32 → Prop) : Prop :=
  (∃ K14 : Int32 → Prop, (∀ (v1 : Int32), K14 v1 →
 (∃ K37 : Int32 → Prop, (∀ (v2 : Int32), K37 v2 →
 ((¬ (M 11 6) = 0 →
 Z (0 : Int32)) ∧
 ((M 11 6) = 0 →
 (∃ K66 : Prop, (K66  →
 (∃ K86 : Int32 → Prop, (∀ (v4 : Int32), K86 v4 →
 ((v4 ≤ (M 11 8) →
 (∃ K124 : Prop, (K124  →
 ((v1 = 0 →
 Z (0 : Int32)) ∧
 (¬ v1 = 0 →
 ((¬ p2 = 0 →
 Z (0 : Int32)) ∧
 (p2 = 0 →
 wp_X4_word_1 M L ((M 11 7) + (6 : Int32)) (fun (r8 : Int32) =>
 ((¬ r8 = 0 →
 Z (0 : Int32)) ∧
 (r8 = 0 →
 Z (7 : Int32))))))))) ∧
 ((v1 = 0 →
 K124) ∧
 (¬ v1 = 0 →
 ((¬ (M 11 5) = 0 →
 K124) ∧
 ((M 11 5) = 0 →
 wp_X4_word_1 M L ((M 11 7) + (4 : Int32)) (fun (r12 : Int32) =>
 ((r12 = (M 11 8) →
 K124) ∧
 (¬ r12 = (M 11 8) →
 Z (4 : Int32)))))))))) ∧
 (¬ v4 ≤ (M 11 8) →
 Z (4 : Int32)))) ∧
 ((¬ (M 11 3) = (6 : Int32) →
 K86 (8 : Int32)) ∧
 ((M 11 3) = (6 : Int32) →
 K86 (20 : Int32))))) ∧
 ((¬ v1 = 0 →
 K66) ∧
 (v1 = 0 →
 ((¬ v2 = 0 →
 K66) ∧
 (v2 = 0 →
 (((M 11 3) = (6 : Int32) →
 K66) ∧
 (¬ (M 11 3) = (6 : Int32) →
 Z (0 : Int32))))))))))) ∧
 ∃ K32 : Prop, (K32  →
 K37 (1 : Int32)) ∧
 (((M 11 3) = (1 : Int32) →
 K32) ∧
 (¬ (M 11 3) = (1 : Int32) →
 ((¬ (M 11 3) = (58 : Int32) →
 K37 (0 : Int32)) ∧
 ((M 11 3) = (58 : Int32) →
 K32)))))) ∧
 ((¬ (M 11 3) = (17 : Int32) →
 K14 (0 : Int32)) ∧
 ((M 11 3) = (17 : Int32) →
 K14 (1 : Int32))))

def wp_X6_isEchoFour (M : cM) (L : cL) (p0 : Int32) (Z : Int32 → Prop) : Prop :=
  ((p0 = (8 : Int32) →
 Z (1 : Int32)) ∧
 (¬ p0 = (8 : Int32) →
 ((¬ p0 = 0 →
 Z (0 : Int32)) ∧
 (p0 = 0 →
 Z (1 : Int32)))))

def wp_X6_isErrorFour (M : cM) (L : cL) (p0 : Int32) (Z : Int32 → Prop) : Prop :=
  ((p0 = (3 : Int32) →
 Z (1 : Int32)) ∧
 (¬ p0 = (3 : Int32) →
 ((p0 = (11 : Int32) →
 Z (1 : Int32)) ∧
 (¬ p0 = (11 : Int32) →
 ((¬ p0 = (12 : Int32) →
 Z (0 : Int32)) ∧
 (p0 = (12 : Int32) →
 Z (1 : Int32)))))))

def wp_X6_faultOfFour_0_11 (M : cM) (L : cL)  (Z : Int32 → Prop) : Prop :=
  wp_X6_neverFromFour M L (M 11 3) (fun (r1 : Int32) =>
 ((r1 = 0 →
 (∃ K30 : Prop, (K30  →
 (∃ K51 : Int32 → Prop, (∀ (v3 : Int32), K51 v3 →
 wp_X6_faultOfTransport_0_11 M L v3 (fun (r4 : Int32) =>
 ((¬ r4 = 0 →
 Z r4) ∧
 (r4 = 0 →
 (((M 11 3) = (1 : Int32) →
 wp_X4_at_1 M L (M 11 7) (fun (r7 : Int32) =>
 wp_X6_isEchoFour M L r7 (fun (r8 : Int32) =>
 ((¬ r8 = 0 →
 Z (0 : Int32)) ∧
 (r8 = 0 →
 wp_X6_isErrorFour M L r7 (fun (r10 : Int32) =>
 ((r10 = 0 →
 Z (6 : Int32)) ∧
 (¬ r10 = 0 →
 Z (0 : Int32))))))))) ∧
 (¬ (M 11 3) = (1 : Int32) →
 Z r4)))))) ∧
 ∃ K50 : Prop, (K50  →
 K51 (0 : Int32)) ∧
 (((M 0 15) = 0 →
 K50) ∧
 (¬ (M 0 15) = 0 →
 ((¬ (M 11 5) = 0 →
 K50) ∧
 ((M 11 5) = 0 →
 K51 (1 : Int32))))))) ∧
 ((¬ (M 11 3) = (1 : Int32) →
 K30) ∧
 ((M 11 3) = (1 : Int32) →
 wp_X2_fragment_11 M L  (fun (r15 : Int32) =>
 ((r15 = 0 →
 K30) ∧
 (¬ r15 = 0 →
 Z (5 : Int32)))))))) ∧
 (¬ r1 = 0 →
 Z (6 : Int32))))

def wp_X1_bitsBehind_10 (M : cM) (L : cL)  (Z : Int32 → Prop) : Prop :=
  Z ((M 10 2) - (32 : Int32))

def wp_X1_upperOf_10 (M : cM) (L : cL) (p1 : Int32) (Z : Int64 → Prop) : Prop :=
  ((¬ (M 10 2) = (96 : Int32) →
 wp_X1_bitsBehind_10 M L  (fun (r2 : Int32) =>
 Z ((L 10 0) ||| ((((p1.toInt64) &&& (4294967295 : Int64)).toUInt64 >>> (r2.toInt64.toUInt64 &&& Int64.toUInt64 63)).toInt64)))) ∧
 ((M 10 2) = (96 : Int32) →
 Z (L 10 0)))

def wp_X6_wordsOf (M : cM) (L : cL) (p0 : Int64) (Z : Int64 → Prop) : Prop :=
  Z (((((p0.toUInt64 >>> ((48 : Int32).toInt64.toUInt64 &&& Int64.toUInt64 63)).toInt64) + (((p0.toUInt64 >>> ((32 : Int32).toInt64.toUInt64 &&& Int64.toUInt64 63)).toInt64) &&& (65535 : Int64))) + (((p0.toUInt64 >>> ((16 : Int32).toInt64.toUInt64 &&& Int64.toUInt64 63)).toInt64) &&& (65535 : Int64))) + (p0 &&& (65535 : Int64)))

def wp_X1_lowerOf_10 (M : cM) (L : cL) (p1 : Int32) (Z : Int64 → Prop) : Prop :=
  ∀ x1 : Int64, x1 = ((p1.toInt64) &&& (4294967295 : Int64)) →
 ((¬ (M 10 2) = (96 : Int32) →
 wp_X1_bitsBehind_10 M L  (fun (r3 : Int32) =>
 ∀ x4 : Int64, x4 = (x1 &&& (((1 : Int64) <<< (r3.toInt64 &&& 63)) - (1 : Int64))) →
 wp_X1_bitsBehind_10 M L  (fun (r5 : Int32) =>
 Z (x4 <<< (((56 : Int32) - r5).toInt64 &&& 63))))) ∧
 ((M 10 2) = (96 : Int32) →
 Z ((L 10 1) ||| x1)))

def wp_X6_imageWords_0_11 (M : cM) (L : cL)  (Z : Int64 → Prop) : Prop :=
  wp_X1_upperOf_10 M L (M 11 10) (fun (r1 : Int64) =>
 wp_X6_wordsOf M L r1 (fun (r2 : Int64) =>
 wp_X1_lowerOf_10 M L (M 11 10) (fun (r3 : Int64) =>
 wp_X6_wordsOf M L r3 (fun (r4 : Int64) =>
 wp_X1_upperOf_10 M L (M 11 11) (fun (r5 : Int64) =>
 wp_X6_wordsOf M L r5 (fun (r6 : Int64) =>
 wp_X1_lowerOf_10 M L (M 11 11) (fun (r7 : Int64) =>
 wp_X6_wordsOf M L r7 (fun (r8 : Int64) =>
 Z (((r2 + r4) + r6) + r8)))))))))

def wp_X3_open_5 (M : cM) (L : cL) (p1 : Int32) (Z : Int32 → cM → Prop) : Prop :=
  ∀ x1 : Int32, x1 = (M 6 1) →
 (((M 5 3) < 0 →
 Z x1 M) ∧
 (¬ (M 5 3) < 0 →
 (((49 : Int32) ≤ (M 5 3) →
 Z x1 M) ∧
 (¬ (49 : Int32) ≤ (M 5 3) →
 (vp_in (M 5 3) 49 ∧
 ∀ M4 : cM, M4 = mu M 8 (M 5 3).toNatClampNeg x1 →
 (vp_in (M4 5 3) 49 ∧
 ∀ M5 : cM, M5 = mu M4 9 (M4 5 3).toNatClampNeg p1 →
 ∀ M6 : cM, M6 = mu M5 5 3 ((M5 5 3) + (1 : Int32)) →
 ∀ M7 : cM, M7 = mu M6 6 1 (x1 + p1) →
 Z x1 M7))))))

def wp_X4_put_6 (M : cM) (L : cL) (p1 : Int32) (p2 : Int32) (p3 : Int64) (Z : cM → Prop) : Prop :=
  ∃ (I3 : Int32 → cM → Prop) (m3 : Int32 → cM → Nat), I3 (0 : Int32) M ∧ ∀ (x1 : Int32) (M2 : cM), I3 x1 M2 →
 ((p2 ≤ x1 →
 Z M2) ∧
 (¬ p2 ≤ x1 →
 ∀ x4 : Int32, x4 = (p1 + x1) →
 (∃ K50 : cM → Prop, (∀ (M5 : cM), K50 M5 →
 ∀ x6 : Int32, x6 = (x1 + (1 : Int32)) →
 (I3 x6 M5 ∧ m3 x6 M5 < m3 x1 M2)) ∧
 ((x4 < 0 →
 K50 M2) ∧
 (¬ x4 < 0 →
 (((3332 : Int32) ≤ x4 →
 K50 M2) ∧
 (¬ (3332 : Int32) ≤ x4 →
 (vp_in x4 3332 ∧
 ∀ M9 : cM, M9 = mu M2 7 x4.toNatClampNeg (vp_nar .byte ((((p3.toUInt64 >>> (((8 : Int32) * ((p2 - (1 : Int32)) - x1)).toInt64.toUInt64 &&& Int64.toUInt64 63)).toInt64).toInt32).toInt8.toInt32)) →
 K50 M9))))))))

def wp_X6_putSixHeader_0_6_11 (M : cM) (L : cL) (p2 : Int32) (p4 : Int32) (p5 : Int32) (p6 : Int32) (Z : cM → Prop) : Prop :=
  (∃ K24 : Int32 → Prop, (∀ (v1 : Int32), K24 v1 →
 wp_X4_put_6 M L p2 (4 : Int32) ((1610612736 : Int64) ||| (v1.toInt64)) (fun (M2 : cM) =>
 wp_X4_put_6 M2 L (p2 + (4 : Int32)) (2 : Int32) (p4.toInt64) (fun (M3 : cM) =>
 wp_X4_put_6 M3 L (p2 + (6 : Int32)) (1 : Int32) (p5.toInt64) (fun (M4 : cM) =>
 wp_X4_put_6 M4 L (p2 + (7 : Int32)) (1 : Int32) (p6.toInt64) (fun (M5 : cM) =>
 wp_X1_upperOf_10 M5 L (M5 11 10) (fun (r6 : Int64) =>
 wp_X4_put_6 M5 L (p2 + (8 : Int32)) (8 : Int32) r6 (fun (M7 : cM) =>
 wp_X1_lowerOf_10 M7 L (M7 11 10) (fun (r8 : Int64) =>
 wp_X4_put_6 M7 L (p2 + (16 : Int32)) (8 : Int32) r8 (fun (M9 : cM) =>
 wp_X1_upperOf_10 M9 L (M9 11 11) (fun (r10 : Int64) =>
 wp_X4_put_6 M9 L (p2 + (24 : Int32)) (8 : Int32) r10 (fun (M11 : cM) =>
 wp_X1_lowerOf_10 M11 L (M11 11 11) (fun (r12 : Int64) =>
 wp_X4_put_6 M11 L (p2 + (32 : Int32)) (8 : Int32) r12 (fun (M13 : cM) =>
 Z M13))))))))))))) ∧
 (((M 0 14) = 0 →
 K24 (0 : Int32)) ∧
 (¬ (M 0 14) = 0 →
 K24 ((M 11 1) <<< ((20 : Int32) &&& 31)))))

def wp_X4_copy_6_3 (M : cM) (L : cL) (p2 : Int32) (p3 : Int32) (p4 : Int32) (Z : cM → Prop) : Prop :=
  (∃ K26 : Int32 → Prop, (∀ (v1 : Int32), K26 v1 →
 ((v1 = 0 →
 Z M) ∧
 (¬ v1 = 0 →
 ((p3 < 0 →
 Z M) ∧
 (¬ p3 < 0 →
 ((((3332 : Int32) - p4) < p3 →
 Z M) ∧
 (¬ ((3332 : Int32) - p4) < p3 →
 ((¬ p2 < 0 ∧ ¬ p3 < 0 ∧ ¬ p4 < 0 ∧ p2.toNatClampNeg + p4.toNatClampNeg ≤ 2408 ∧ p3.toNatClampNeg + p4.toNatClampNeg ≤ 3332 ∧ ∀ i, i < p4.toNatClampNeg → fits .byte (.int (M 4 (p2.toNatClampNeg + i))) = true) ∧
 ∀ M5 : cM, M5 = ms M 7 (va_cpy (M 4) (M 7) p2.toNatClampNeg p3.toNatClampNeg p4.toNatClampNeg) →
 Z M5)))))))) ∧
 ∃ K25 : Prop, (K25  →
 K26 (0 : Int32)) ∧
 ((p4 ≤ 0 →
 K25) ∧
 (¬ p4 ≤ 0 →
 ((p2 < 0 →
 K25) ∧
 (¬ p2 < 0 →
 ((((2408 : Int32) - p4) < p2 →
 K25) ∧
 (¬ ((2408 : Int32) - p4) < p2 →
 K26 (1 : Int32))))))))

def wp_X6_putFragmentHeader_6 (M : cM) (L : cL) (p1 : Int32) (p2 : Int32) (p3 : Int32) (p4 : Int32) (p5 : Int32) (Z : cM → Prop) : Prop :=
  wp_X4_put_6 M L p1 (2 : Int32) ((p2 <<< ((8 : Int32) &&& 31)).toInt64) (fun (M1 : cM) =>
 (∃ K29 : Int32 → Prop, (∀ (v2 : Int32), K29 v2 →
 wp_X4_put_6 M1 L (p1 + (2 : Int32)) (2 : Int32) (((p3 <<< ((3 : Int32) &&& 31)) ||| v2).toInt64) (fun (M3 : cM) =>
 wp_X4_put_6 M3 L (p1 + (4 : Int32)) (4 : Int32) (p5.toInt64) (fun (M4 : cM) =>
 Z M4))) ∧
 ((p4 = 0 →
 K29 (0 : Int32)) ∧
 (¬ p4 = 0 →
 K29 (1 : Int32)))))

def wp_X0_fragmentHeader_11 (M : cM) (L : cL)  (Z : Int32 → Prop) : Prop :=
  wp_X2_fragment_11 M L  (fun (r1 : Int32) =>
 ((r1 = 0 →
 Z (0 : Int32)) ∧
 (¬ r1 = 0 →
 Z (8 : Int32))))

def wp_X6_sendSix_0_11 (M : cM) (L : cL)  (Z : cM → Prop) : Prop :=
  (∃ K17 : Int32 → Prop, (∀ (v1 : Int32), K17 v1 →
 (∃ K51 : Int32 → Prop, (∀ (v2 : Int32), K51 v2 →
 (∃ K68 : Int32 → Prop, (∀ (v3 : Int32), K68 v3 →
 (∃ K81 : Int32 → Prop, (∀ (v4 : Int32), K81 v4 →
 ∃ (I89 : Int32 → Int32 → cM → Prop) (m89 : Int32 → Int32 → cM → Nat), I89 (0 : Int32) (0 : Int32) M ∧ ∀ (x5 : Int32) (x6 : Int32) (M7 : cM), I89 x5 x6 M7 →
 (((49 : Int32) ≤ x6 →
 Z M7) ∧
 (¬ (49 : Int32) ≤ x6 →
 (((M7 3 1) < x5 →
 Z M7) ∧
 (¬ (M7 3 1) < x5 →
 ∀ x10 : Int32, x10 = ((M7 3 1) - x5) →
 (∃ K137 : Int32 → Prop, (∀ (v11 : Int32), K137 v11 →
 wp_X3_open_5 M7 L (((40 : Int32) + v4) + v11) (fun (r12 : Int32) (M13 : cM) =>
 (∃ K183 : Int32 → Prop, (∀ (v14 : Int32), K183 v14 →
 wp_X6_putSixHeader_0_6_11 M13 L r12 (v4 + v11) v14 ((M13 11 2) - (1 : Int32)) (fun (M15 : cM) =>
 (∃ K250 : cM → Prop, (∀ (M16 : cM), K250 M16 →
 wp_X4_copy_6_3 M16 L x5 ((r12 + (40 : Int32)) + v4) v11 (fun (M17 : cM) =>
 ((¬ v11 = x10 →
 ∀ x19 : Int32, x19 = (x5 + v11) →
 ∀ x20 : Int32, x20 = (x6 + (1 : Int32)) →
 (I89 x19 x20 M17 ∧ m89 x19 x20 M17 < m89 x5 x6 M7)) ∧
 (v11 = x10 →
 Z M17)))) ∧
 ((v3 = 0 →
 K250 M15) ∧
 (¬ v3 = 0 →
 (∃ K216 : Int32 → Prop, (∀ (v22 : Int32), K216 v22 →
 wp_X6_putFragmentHeader_6 M15 L (r12 + (40 : Int32)) v1 ((M15 11 6) + (x5 / (8 : Int32))) v22 (M15 11 4) (fun (M23 : cM) =>
 K250 M23)) ∧
 ∃ K211 : Prop, (K211  →
 K216 (1 : Int32)) ∧
 ((v11 < x10 →
 K211) ∧
 (¬ v11 < x10 →
 (((M15 11 5) = 0 →
 K216 (0 : Int32)) ∧
 (¬ (M15 11 5) = 0 →
 K211)))))))))) ∧
 ((v3 = 0 →
 K183 v1) ∧
 (¬ v3 = 0 →
 K183 (44 : Int32)))))) ∧
 ((v2 = 0 →
 K137 x10) ∧
 (¬ v2 = 0 →
 K137 (if (1232 : Int32) < x10 then (1232 : Int32) else x10))))))))) ∧
 ((v3 = 0 →
 K81 (0 : Int32)) ∧
 (¬ v3 = 0 →
 K81 (8 : Int32))))) ∧
 ∃ K63 : Prop, (K63  →
 K68 (1 : Int32)) ∧
 ((¬ v2 = 0 →
 K63) ∧
 (v2 = 0 →
 wp_X2_fragment_11 M L  (fun (r30 : Int32) =>
 ((r30 = 0 →
 K68 (0 : Int32)) ∧
 (¬ r30 = 0 →
 K63))))))) ∧
 ∃ K50 : Prop, (K50  →
 K51 (0 : Int32)) ∧
 ((¬ (M 11 16) = 0 →
 K50) ∧
 ((M 11 16) = 0 →
 wp_X0_fragmentHeader_11 M L  (fun (r33 : Int32) =>
 (((((40 : Int32) + r33) + (M 3 1)) ≤ (1280 : Int32) →
 K50) ∧
 (¬ (((40 : Int32) + r33) + (M 3 1)) ≤ (1280 : Int32) →
 K51 (1 : Int32)))))))) ∧
 ((¬ (M 11 3) = (1 : Int32) →
 K17 (M 11 3)) ∧
 ((M 11 3) = (1 : Int32) →
 K17 (58 : Int32))))

def wp_X4_at_6 (M : cM) (L : cL) (p1 : Int32) (Z : Int32 → Prop) : Prop :=
  ((p1 < 0 →
 Z (0 : Int32)) ∧
 (¬ p1 < 0 →
 (((3332 : Int32) ≤ p1 →
 Z (0 : Int32)) ∧
 (¬ (3332 : Int32) ≤ p1 →
 (vp_in p1 3332 ∧
 Z ((M 7 p1.toNatClampNeg) &&& (255 : Int32)))))))

def wp_X4_sum_6 (M : cM) (L : cL) (p1 : Int32) (p2 : Int32) (Z : Int64 → Prop) : Prop :=
  ∃ (I5 : Int64 → Int32 → Prop) (m5 : Int64 → Int32 → Nat), I5 (0 : Int64) p1 ∧ ∀ (x1 : Int64) (x2 : Int32), I5 x1 x2 →
 ((p2 ≤ x2 →
 Z x1) ∧
 (¬ p2 ≤ x2 →
 wp_X4_at_6 M L x2 (fun (r4 : Int32) =>
 (∃ K41 : Int64 → Prop, (∀ (v5 : Int64), K41 v5 →
 ∀ x6 : Int64, x6 = (x1 + v5) →
 ∀ x7 : Int32, x7 = (x2 + (1 : Int32)) →
 (I5 x6 x7 ∧ m5 x6 x7 < m5 x1 x2)) ∧
 ((¬ ((x2 - p1) &&& (1 : Int32)) = 0 →
 K41 (r4.toInt64)) ∧
 (((x2 - p1) &&& (1 : Int32)) = 0 →
 K41 ((r4 <<< ((8 : Int32) &&& 31)).toInt64)))))))

def wp_X6_checksum (M : cM) (L : cL) (p0 : Int64) (Z : Int32 → Prop) : Prop :=
  wp_X6_folded M L p0 (fun (r1 : Int32) =>
 Z ((65535 : Int32) - r1))

def wp_X4_copy_6_1 (M : cM) (L : cL) (p2 : Int32) (p3 : Int32) (p4 : Int32) (Z : cM → Prop) : Prop :=
  (∃ K26 : Int32 → Prop, (∀ (v1 : Int32), K26 v1 →
 ((v1 = 0 →
 Z M) ∧
 (¬ v1 = 0 →
 ((p3 < 0 →
 Z M) ∧
 (¬ p3 < 0 →
 ((((3332 : Int32) - p4) < p3 →
 Z M) ∧
 (¬ ((3332 : Int32) - p4) < p3 →
 ((¬ p2 < 0 ∧ ¬ p3 < 0 ∧ ¬ p4 < 0 ∧ p2.toNatClampNeg + p4.toNatClampNeg ≤ 2400 ∧ p3.toNatClampNeg + p4.toNatClampNeg ≤ 3332 ∧ ∀ i, i < p4.toNatClampNeg → fits .byte (.int (M 2 (p2.toNatClampNeg + i))) = true) ∧
 ∀ M5 : cM, M5 = ms M 7 (va_cpy (M 2) (M 7) p2.toNatClampNeg p3.toNatClampNeg p4.toNatClampNeg) →
 Z M5)))))))) ∧
 ∃ K25 : Prop, (K25  →
 K26 (0 : Int32)) ∧
 ((p4 ≤ 0 →
 K25) ∧
 (¬ p4 ≤ 0 →
 ((p2 < 0 →
 K25) ∧
 (¬ p2 < 0 →
 ((((2400 : Int32) - p4) < p2 →
 K25) ∧
 (¬ ((2400 : Int32) - p4) < p2 →
 K26 (1 : Int32))))))))

def wp_X6_answerFour_0_11 (M : cM) (L : cL) (p2 : Int32) (p3 : Int32) (Z : Int32 → cM → Prop) : Prop :=
  (∃ K29 : Int32 → Prop, (∀ (v1 : Int32), K29 v1 →
 ((¬ (M 11 6) = 0 →
 Z (9 : Int32) M) ∧
 ((M 11 6) = 0 →
 (∃ K54 : Prop, (K54  →
 ∀ x3 : Int32, x3 = ((M 11 14) + (if (M 11 8) < (8 : Int32) then (M 11 8) else (8 : Int32))) →
 ∀ x4 : Int32, x4 = ((28 : Int32) + x3) →
 wp_X3_open_5 M L x4 (fun (r5 : Int32) (M6 : cM) =>
 wp_X4_put_6 M6 L r5 (4 : Int32) (((1157627904 : Int32) ||| x4).toInt64) (fun (M7 : cM) =>
 wp_X4_put_6 M7 L (r5 + (4 : Int32)) (4 : Int32) (0 : Int64) (fun (M8 : cM) =>
 wp_X4_put_6 M8 L (r5 + (8 : Int32)) (4 : Int32) (1073807360 : Int64) (fun (M9 : cM) =>
 wp_X4_put_6 M9 L (r5 + (12 : Int32)) (4 : Int32) ((M9 0 9).toInt64) (fun (M10 : cM) =>
 wp_X4_put_6 M10 L (r5 + (16 : Int32)) (4 : Int32) ((M10 11 10).toInt64) (fun (M11 : cM) =>
 wp_X4_sum_6 M11 L r5 (r5 + (20 : Int32)) (fun (r12 : Int64) =>
 wp_X6_checksum M11 L r12 (fun (r13 : Int32) =>
 wp_X4_put_6 M11 L (r5 + (10 : Int32)) (2 : Int32) (r13.toInt64) (fun (M14 : cM) =>
 ∀ x15 : Int32, x15 = (r5 + (20 : Int32)) →
 wp_X4_put_6 M14 L x15 (4 : Int32) ((p2.toInt64) <<< ((16 : Int32).toInt64 &&& 63)) (fun (M16 : cM) =>
 wp_X4_put_6 M16 L (x15 + (4 : Int32)) (4 : Int32) (p3.toInt64) (fun (M17 : cM) =>
 wp_X4_copy_6_1 M17 L (0 : Int32) (x15 + (8 : Int32)) x3 (fun (M18 : cM) =>
 wp_X4_sum_6 M18 L x15 (r5 + x4) (fun (r19 : Int64) =>
 wp_X6_checksum M18 L r19 (fun (r20 : Int32) =>
 wp_X4_put_6 M18 L (x15 + (2 : Int32)) (2 : Int32) (r20.toInt64) (fun (M21 : cM) =>
 Z (10 : Int32) M21)))))))))))))))) ∧
 ((¬ (M 11 3) = (1 : Int32) →
 K54) ∧
 ((M 11 3) = (1 : Int32) →
 ((¬ v1 = 0 →
 K54) ∧
 (v1 = 0 →
 Z (9 : Int32) M)))))))) ∧
 ∃ K28 : Prop, (K28  →
 K29 (0 : Int32)) ∧
 (((M 11 8) ≤ 0 →
 K28) ∧
 (¬ (M 11 8) ≤ 0 →
 wp_X4_at_1 M L (M 11 7) (fun (r25 : Int32) =>
 wp_X6_isEchoFour M L r25 (fun (r26 : Int32) =>
 ((r26 = 0 →
 K28) ∧
 (¬ r26 = 0 →
 K29 (1 : Int32))))))))

def wp_X4_copy_3_1 (M : cM) (L : cL) (p2 : Int32) (p3 : Int32) (p4 : Int32) (Z : cM → Prop) : Prop :=
  (∃ K26 : Int32 → Prop, (∀ (v1 : Int32), K26 v1 →
 ((v1 = 0 →
 Z M) ∧
 (¬ v1 = 0 →
 ((p3 < 0 →
 Z M) ∧
 (¬ p3 < 0 →
 ((((2408 : Int32) - p4) < p3 →
 Z M) ∧
 (¬ ((2408 : Int32) - p4) < p3 →
 ((¬ p2 < 0 ∧ ¬ p3 < 0 ∧ ¬ p4 < 0 ∧ p2.toNatClampNeg + p4.toNatClampNeg ≤ 2400 ∧ p3.toNatClampNeg + p4.toNatClampNeg ≤ 2408 ∧ ∀ i, i < p4.toNatClampNeg → fits .byte (.int (M 2 (p2.toNatClampNeg + i))) = true) ∧
 ∀ M5 : cM, M5 = ms M 4 (va_cpy (M 2) (M 4) p2.toNatClampNeg p3.toNatClampNeg p4.toNatClampNeg) →
 Z M5)))))))) ∧
 ∃ K25 : Prop, (K25  →
 K26 (0 : Int32)) ∧
 ((p4 ≤ 0 →
 K25) ∧
 (¬ p4 ≤ 0 →
 ((p2 < 0 →
 K25) ∧
 (¬ p2 < 0 →
 ((((2400 : Int32) - p4) < p2 →
 K25) ∧
 (¬ ((2400 : Int32) - p4) < p2 →
 K26 (1 : Int32))))))))

def wp_X4_word_3 (M : cM) (L : cL) (p1 : Int32) (Z : Int32 → Prop) : Prop :=
  ((p1 < 0 →
 Z (0 : Int32)) ∧
 (¬ p1 < 0 →
 ((((2408 : Int32) - (1 : Int32)) ≤ p1 →
 Z (0 : Int32)) ∧
 (¬ ((2408 : Int32) - (1 : Int32)) ≤ p1 →
 (vp_in p1 2408 ∧
 (vp_in (p1 + (1 : Int32)) 2408 ∧
 Z ((((M 4 p1.toNatClampNeg) &&& (255 : Int32)) <<< ((8 : Int32) &&& 31)) ||| ((M 4 (p1 + (1 : Int32)).toNatClampNeg) &&& (255 : Int32)))))))))

def wp_X6_adjusted (M : cM) (L : cL) (p0 : Int32) (p1 : Int64) (p3 : Int32) (p4 : Int64) (Z : Int32 → Prop) : Prop :=
  wp_X6_folded M L (((((65535 : Int32) - p0).toInt64) + (((65535 : Int64) * (p3.toInt64)) - p1)) + p4) (fun (r1 : Int32) =>
 Z ((65535 : Int32) - r1))

def wp_X4_put_3 (M : cM) (L : cL) (p1 : Int32) (p2 : Int32) (p3 : Int64) (Z : cM → Prop) : Prop :=
  ∃ (I3 : Int32 → cM → Prop) (m3 : Int32 → cM → Nat), I3 (0 : Int32) M ∧ ∀ (x1 : Int32) (M2 : cM), I3 x1 M2 →
 ((p2 ≤ x1 →
 Z M2) ∧
 (¬ p2 ≤ x1 →
 ∀ x4 : Int32, x4 = (p1 + x1) →
 (∃ K50 : cM → Prop, (∀ (M5 : cM), K50 M5 →
 ∀ x6 : Int32, x6 = (x1 + (1 : Int32)) →
 (I3 x6 M5 ∧ m3 x6 M5 < m3 x1 M2)) ∧
 ((x4 < 0 →
 K50 M2) ∧
 (¬ x4 < 0 →
 (((2408 : Int32) ≤ x4 →
 K50 M2) ∧
 (¬ (2408 : Int32) ≤ x4 →
 (vp_in x4 2408 ∧
 ∀ M9 : cM, M9 = mu M2 4 x4.toNatClampNeg (vp_nar .byte ((((p3.toUInt64 >>> (((8 : Int32) * ((p2 - (1 : Int32)) - x1)).toInt64.toUInt64 &&& Int64.toUInt64 63)).toInt64).toInt32).toInt8.toInt32)) →
 K50 M9))))))))

def wp_X6_fixTransport_0_11 (M : cM) (L : cL) (p2 : Int32) (p3 : Int64) (p5 : Int32) (p6 : Int64) (Z : cM → Prop) : Prop :=
  (∃ K16 : Int32 → Prop, (∀ (v1 : Int32), K16 v1 →
 (∃ K41 : Int32 → Prop, (∀ (v2 : Int32), K41 v2 →
 ((v2 = 0 →
 Z M) ∧
 (¬ v2 = 0 →
 ((¬ (M 11 6) = 0 →
 Z M) ∧
 ((M 11 6) = 0 →
 (((v1 + (2 : Int32)) ≤ (M 11 9) →
 wp_X4_word_3 M L (p2 + v1) (fun (r6 : Int32) =>
 ((¬ (M 11 3) = (6 : Int32) →
 ((r6 = 0 →
 Z M) ∧
 (¬ r6 = 0 →
 wp_X6_adjusted M L r6 p3 p5 p6 (fun (r9 : Int32) =>
 (∃ K155 : Int64 → Prop, (∀ (v10 : Int64), K155 v10 →
 wp_X4_put_3 M L (p2 + v1) (2 : Int32) v10 (fun (M11 : cM) =>
 Z M11)) ∧
 ((¬ r9 = 0 →
 K155 (r9.toInt64)) ∧
 (r9 = 0 →
 K155 (65535 : Int64)))))))) ∧
 ((M 11 3) = (6 : Int32) →
 wp_X6_adjusted M L r6 p3 p5 p6 (fun (r13 : Int32) =>
 wp_X4_put_3 M L (p2 + v1) (2 : Int32) (r13.toInt64) (fun (M14 : cM) =>
 Z M14)))))) ∧
 (¬ (v1 + (2 : Int32)) ≤ (M 11 9) →
 Z M))))))) ∧
 ∃ K36 : Prop, (K36  →
 K41 (1 : Int32)) ∧
 (((M 11 3) = (17 : Int32) →
 K36) ∧
 (¬ (M 11 3) = (17 : Int32) →
 ((¬ (M 11 3) = (6 : Int32) →
 K41 (0 : Int32)) ∧
 ((M 11 3) = (6 : Int32) →
 K36)))))) ∧
 ((¬ (M 11 3) = (17 : Int32) →
 K16 (16 : Int32)) ∧
 ((M 11 3) = (17 : Int32) →
 K16 (6 : Int32))))

def wp_X6_fixToSix_0_11 (M : cM) (L : cL) (p2 : Int32) (Z : cM → Prop) : Prop :=
  ((¬ (M 11 3) = (1 : Int32) →
 wp_X6_fixTransport_0_11 M L p2 (L 11 12) (4 : Int32) (L 11 13) (fun (M2 : cM) =>
 Z M2)) ∧
 ((M 11 3) = (1 : Int32) →
 wp_X4_word_3 M L p2 (fun (r3 : Int32) =>
 (∃ K35 : Int32 → Prop, (∀ (v4 : Int32), K35 v4 →
 ∀ x5 : Int32, x5 = ((v4 <<< ((8 : Int32) &&& 31)) ||| (r3 &&& (255 : Int32))) →
 wp_X4_put_3 M L p2 (2 : Int32) (x5.toInt64) (fun (M6 : cM) =>
 ∀ x7 : Int64, x7 = ((((x5.toInt64) + (L 11 13)) + ((M6 11 8).toInt64)) + (58 : Int64)) →
 wp_X4_word_3 M6 L (p2 + (2 : Int32)) (fun (r8 : Int32) =>
 wp_X6_adjusted M6 L r8 (r3.toInt64) (1 : Int32) x7 (fun (r9 : Int32) =>
 wp_X4_put_3 M6 L (p2 + (2 : Int32)) (2 : Int32) (r9.toInt64) (fun (M10 : cM) =>
 Z M10))))) ∧
 ((¬ (r3 >>> ((8 : Int32) &&& 31)) = (8 : Int32) →
 K35 (129 : Int32)) ∧
 ((r3 >>> ((8 : Int32) &&& 31)) = (8 : Int32) →
 K35 (128 : Int32)))))))

def wp_X4_at_3 (M : cM) (L : cL) (p1 : Int32) (Z : Int32 → Prop) : Prop :=
  ((p1 < 0 →
 Z (0 : Int32)) ∧
 (¬ p1 < 0 →
 (((2408 : Int32) ≤ p1 →
 Z (0 : Int32)) ∧
 (¬ (2408 : Int32) ≤ p1 →
 (vp_in p1 2408 ∧
 Z ((M 4 p1.toNatClampNeg) &&& (255 : Int32)))))))

def wp_X4_sum_3 (M : cM) (L : cL) (p1 : Int32) (p2 : Int32) (Z : Int64 → Prop) : Prop :=
  ∃ (I5 : Int64 → Int32 → Prop) (m5 : Int64 → Int32 → Nat), I5 (0 : Int64) p1 ∧ ∀ (x1 : Int64) (x2 : Int32), I5 x1 x2 →
 ((p2 ≤ x2 →
 Z x1) ∧
 (¬ p2 ≤ x2 →
 wp_X4_at_3 M L x2 (fun (r4 : Int32) =>
 (∃ K41 : Int64 → Prop, (∀ (v5 : Int64), K41 v5 →
 ∀ x6 : Int64, x6 = (x1 + v5) →
 ∀ x7 : Int32, x7 = (x2 + (1 : Int32)) →
 (I5 x6 x7 ∧ m5 x6 x7 < m5 x1 x2)) ∧
 ((¬ ((x2 - p1) &&& (1 : Int32)) = 0 →
 K41 (r4.toInt64)) ∧
 (((x2 - p1) &&& (1 : Int32)) = 0 →
 K41 ((r4 <<< ((8 : Int32) &&& 31)).toInt64)))))))

def wp_X6_bodyFromFour_0_11 (M : cM) (L : cL)  (Z : cM → Prop) : Prop :=
  wp_X4_copy_3_1 M L (M 11 7) (0 : Int32) (M 11 8) (fun (M1 : cM) =>
 ∀ M2 : cM, M2 = mu M1 3 1 (M1 11 8) →
 wp_X6_fixToSix_0_11 M2 L (0 : Int32) (fun (M3 : cM) =>
 ((¬ (M3 11 3) = (17 : Int32) →
 Z M3) ∧
 ((M3 11 3) = (17 : Int32) →
 ((¬ (M3 11 6) = 0 →
 Z M3) ∧
 ((M3 11 6) = 0 →
 wp_X4_word_3 M3 L (6 : Int32) (fun (r6 : Int32) =>
 ((¬ r6 = 0 →
 Z M3) ∧
 (r6 = 0 →
 wp_X4_sum_3 M3 L (0 : Int32) (M3 3 1) (fun (r8 : Int64) =>
 wp_X6_checksum M3 L ((((L 11 13) + ((M3 11 8).toInt64)) + (17 : Int64)) + r8) (fun (r9 : Int32) =>
 (∃ K118 : Int64 → Prop, (∀ (v10 : Int64), K118 v10 →
 wp_X4_put_3 M3 L (6 : Int32) (2 : Int32) v10 (fun (M11 : cM) =>
 Z M11)) ∧
 ((¬ r9 = 0 →
 K118 (r9.toInt64)) ∧
 (r9 = 0 →
 K118 (65535 : Int64)))))))))))))))

def wp_X6_entry_t0 (M : cM) (L : cL) (p1 : Int64) (Z : Int32 → Prop) : Prop :=
  (((lg_cmp p1 (0 : Int64)) < 0 →
 Z (-1 : Int32)) ∧
 (¬ (lg_cmp p1 (0 : Int64)) < 0 →
 ((0 ≤ (lg_cmp p1 ((16 : Int32).toInt64)) →
 Z (-1 : Int32)) ∧
 (¬ 0 ≤ (lg_cmp p1 ((16 : Int32).toInt64)) →
 (vp_in (p1.toInt32) 16 ∧
 Z (cpTab0.getD (p1.toInt32).toNatClampNeg 0))))))

def wp_X6_errorToSix (M : cM) (L : cL) (p0 : Int32) (p1 : Int32) (Z : Int32 → Prop) : Prop :=
  ((¬ p0 = (3 : Int32) →
 ((¬ p0 = (11 : Int32) →
 ((p1 = 0 →
 Z (1024 : Int32)) ∧
 (¬ p1 = 0 →
 ((¬ p1 = (2 : Int32) →
 Z (-1 : Int32)) ∧
 (p1 = (2 : Int32) →
 Z (1024 : Int32)))))) ∧
 (p0 = (11 : Int32) →
 Z ((768 : Int32) ||| p1)))) ∧
 (p0 = (3 : Int32) →
 wp_X6_entry_t0 M L (p1.toInt64) (fun (r5 : Int32) =>
 Z r5)))

def wp_X0_read_12_1 (M : cM) (L : cL) (p2 : Int32) (p3 : Int32) (Z : Int32 → cM → cL → Prop) : Prop :=
  wp_X4_at_1 M L p2 (fun (r1 : Int32) =>
 ∀ M2 : cM, M2 = mu M 12 14 ((r1 &&& (15 : Int32)) * (4 : Int32)) →
 wp_X4_word_1 M2 L (p2 + (2 : Int32)) (fun (r3 : Int32) =>
 ∀ M4 : cM, M4 = mu M2 12 15 r3 →
 (∃ K52 : Int32 → Prop, (∀ (v5 : Int32), K52 v5 →
 ((v5 = 0 →
 Z (0 : Int32) M4 L) ∧
 (¬ v5 = 0 →
 ((¬ (r1 >>> ((4 : Int32) &&& 31)) = (4 : Int32) →
 Z (0 : Int32) M4 L) ∧
 ((r1 >>> ((4 : Int32) &&& 31)) = (4 : Int32) →
 (((M4 12 14) < (20 : Int32) →
 Z (0 : Int32) M4 L) ∧
 (¬ (M4 12 14) < (20 : Int32) →
 (((M4 12 14) ≤ (M4 12 15) →
 ∀ M10 : cM, M10 = mu M4 12 0 p2 →
 wp_X4_at_1 M10 L (p2 + (1 : Int32)) (fun (r11 : Int32) =>
 ∀ M12 : cM, M12 = mu M10 12 1 r11 →
 wp_X4_word_1 M12 L (p2 + (4 : Int32)) (fun (r13 : Int32) =>
 ∀ M14 : cM, M14 = mu M12 12 4 r13 →
 wp_X4_word_1 M14 L (p2 + (6 : Int32)) (fun (r15 : Int32) =>
 (∃ K141 : Int32 → Prop, (∀ (v16 : Int32), K141 v16 →
 (isB v16 ∧
 ∀ M17 : cM, M17 = mu M14 12 16 v16 →
 (∃ K159 : Int32 → Prop, (∀ (v18 : Int32), K159 v18 →
 (isB v18 ∧
 ∀ M19 : cM, M19 = mu M17 12 5 v18 →
 ∀ M20 : cM, M20 = mu M19 12 6 (r15 &&& (8191 : Int32)) →
 wp_X4_at_1 M20 L (p2 + (8 : Int32)) (fun (r21 : Int32) =>
 ∀ M22 : cM, M22 = mu M20 12 2 r21 →
 wp_X4_at_1 M22 L (p2 + (9 : Int32)) (fun (r23 : Int32) =>
 ∀ M24 : cM, M24 = mu M22 12 3 r23 →
 wp_X4_number_1 M24 L (p2 + (12 : Int32)) (4 : Int32) (fun (r25 : Int64) =>
 ∀ M26 : cM, M26 = mu M24 12 10 (r25.toInt32) →
 wp_X4_number_1 M26 L (p2 + (16 : Int32)) (4 : Int32) (fun (r27 : Int64) =>
 ∀ M28 : cM, M28 = mu M26 12 11 (r27.toInt32) →
 wp_X4_sum_1 M28 L (p2 + (12 : Int32)) (p2 + (20 : Int32)) (fun (r29 : Int64) =>
 ∀ L30 : cL, L30 = ml L 12 12 r29 →
 ∀ M31 : cM, M31 = mu M28 12 7 (p2 + (M28 12 14)) →
 ∀ M32 : cM, M32 = mu M31 12 8 ((M31 12 15) - (M31 12 14)) →
 ∀ M33 : cM, M33 = mu M32 12 9 ((if (p2 + (M32 12 15)) < p3 then (p2 + (M32 12 15)) else p3) - (M32 12 7)) →
 Z (1 : Int32) M33 L30))))))) ∧
 (((r15 &&& (8192 : Int32)) = 0 →
 K159 (0 : Int32)) ∧
 (¬ (r15 &&& (8192 : Int32)) = 0 →
 K159 (1 : Int32)))))) ∧
 (((r15 &&& (16384 : Int32)) = 0 →
 K141 (0 : Int32)) ∧
 (¬ (r15 &&& (16384 : Int32)) = 0 →
 K141 (1 : Int32)))))))) ∧
 (¬ (M4 12 14) ≤ (M4 12 15) →
 Z (0 : Int32) M4 L))))))))) ∧
 ∃ K51 : Prop, (K51  →
 K52 (0 : Int32)) ∧
 (((p3 - p2) < (20 : Int32) →
 K51) ∧
 (¬ (p3 - p2) < (20 : Int32) →
 (((p3 - p2) < (M4 12 14) →
 K51) ∧
 (¬ (p3 - p2) < (M4 12 14) →
 K52 (1 : Int32))))))))

def wp_X2_fragment_12 (M : cM) (L : cL)  (Z : Int32 → Prop) : Prop :=
  ((¬ (M 12 5) = 0 →
 Z (1 : Int32)) ∧
 ((M 12 5) = 0 →
 (((M 12 6) = 0 →
 Z (0 : Int32)) ∧
 (¬ (M 12 6) = 0 →
 Z (1 : Int32)))))

def wp_X6_innerFourFits_0_12 (M : cM) (L : cL)  (Z : Int32 → Prop) : Prop :=
  wp_X1_mappable_10 M L (M 12 10) (fun (r1 : Int32) =>
 ((r1 = 0 →
 Z (0 : Int32)) ∧
 (¬ r1 = 0 →
 wp_X1_mappable_10 M L (M 12 11) (fun (r3 : Int32) =>
 ((r3 = 0 →
 Z (0 : Int32)) ∧
 (¬ r3 = 0 →
 wp_X6_neverFromFour M L (M 12 3) (fun (r5 : Int32) =>
 ((r5 = 0 →
 (((M 12 3) = (1 : Int32) →
 wp_X2_fragment_12 M L  (fun (r8 : Int32) =>
 ((¬ r8 = 0 →
 Z (0 : Int32)) ∧
 (r8 = 0 →
 (((M 12 9) < (4 : Int32) →
 Z (0 : Int32)) ∧
 (¬ (M 12 9) < (4 : Int32) →
 wp_X4_at_1 M L (M 12 7) (fun (r11 : Int32) =>
 wp_X6_isEchoFour M L r11 (fun (r12 : Int32) =>
 ((r12 = 0 →
 Z (0 : Int32)) ∧
 (¬ r12 = 0 →
 Z (1 : Int32))))))))))) ∧
 (¬ (M 12 3) = (1 : Int32) →
 Z (1 : Int32)))) ∧
 (¬ r5 = 0 →
 Z (0 : Int32))))))))))

def wp_X6_plateauBelow (M : cM) (L : cL) (p0 : Int32) (Z : Int32 → Prop) : Prop :=
  ∃ (I9 : Int32 → Prop) (m9 : Int32 → Nat), I9 (0 : Int32) ∧ ∀ (x1 : Int32), I9 x1 →
 (((10 : Int32) ≤ x1 →
 Z (68 : Int32)) ∧
 (¬ (10 : Int32) ≤ x1 →
 (vp_in x1 10 ∧
 ∀ x3 : Int32, x3 = (cpTab2.getD x1.toNatClampNeg 0) →
 ((p0 ≤ x3 →
 ∀ x5 : Int32, x5 = (x1 + (1 : Int32)) →
 (I9 x5 ∧ m9 x5 < m9 x1)) ∧
 (¬ p0 ≤ x3 →
 Z x3)))))

def wp_X6_mtuToSix_0 (M : cM) (L : cL) (p1 : Int32) (p2 : Int32) (Z : Int32 → Prop) : Prop :=
  (∃ K12 : Int32 → Prop, (∀ (v1 : Int32), K12 v1 →
 ∀ x2 : Int32, x2 = (v1 + (20 : Int32)) →
 Z (if (1280 : Int32) < (if (if ((M 0 12) + (20 : Int32)) < (M 0 13) then ((M 0 12) + (20 : Int32)) else (M 0 13)) < x2 then (if ((M 0 12) + (20 : Int32)) < (M 0 13) then ((M 0 12) + (20 : Int32)) else (M 0 13)) else x2) then (if (if ((M 0 12) + (20 : Int32)) < (M 0 13) then ((M 0 12) + (20 : Int32)) else (M 0 13)) < x2 then (if ((M 0 12) + (20 : Int32)) < (M 0 13) then ((M 0 12) + (20 : Int32)) else (M 0 13)) else x2) else (1280 : Int32))) ∧
 ((¬ p1 = 0 →
 K12 p1) ∧
 (p1 = 0 →
 wp_X6_plateauBelow M L p2 (fun (r4 : Int32) =>
 K12 r4))))

def wp_X6_entry_t1 (M : cM) (L : cL) (p1 : Int64) (Z : Int32 → Prop) : Prop :=
  (((lg_cmp p1 (0 : Int64)) < 0 →
 Z (-1 : Int32)) ∧
 (¬ (lg_cmp p1 (0 : Int64)) < 0 →
 ((0 ≤ (lg_cmp p1 ((20 : Int32).toInt64)) →
 Z (-1 : Int32)) ∧
 (¬ 0 ≤ (lg_cmp p1 ((20 : Int32).toInt64)) →
 (vp_in (p1.toInt32) 20 ∧
 Z (cpTab1.getD (p1.toInt32).toNatClampNeg 0))))))

def wp_X6_secondToSix_0_11_12 (M : cM) (L : cL) (p1 : Int32) (Z : Int32 → Prop) : Prop :=
  ((p1 = (512 : Int32) →
 wp_X4_word_1 M L ((M 11 7) + (6 : Int32)) (fun (r1 : Int32) =>
 wp_X6_mtuToSix_0 M L r1 (M 12 15) (fun (r2 : Int32) =>
 Z r2))) ∧
 (¬ p1 = (512 : Int32) →
 ((p1 = (1024 : Int32) →
 wp_X4_at_1 M L ((M 11 7) + (4 : Int32)) (fun (r3 : Int32) =>
 wp_X6_entry_t1 M L (r3.toInt64) (fun (r4 : Int32) =>
 Z r4))) ∧
 (¬ p1 = (1024 : Int32) →
 ((p1 = (1025 : Int32) →
 Z (6 : Int32)) ∧
 (¬ p1 = (1025 : Int32) →
 Z (0 : Int32)))))))

def wp_X6_imageWords_0_12 (M : cM) (L : cL)  (Z : Int64 → Prop) : Prop :=
  wp_X1_upperOf_10 M L (M 12 10) (fun (r1 : Int64) =>
 wp_X6_wordsOf M L r1 (fun (r2 : Int64) =>
 wp_X1_lowerOf_10 M L (M 12 10) (fun (r3 : Int64) =>
 wp_X6_wordsOf M L r3 (fun (r4 : Int64) =>
 wp_X1_upperOf_10 M L (M 12 11) (fun (r5 : Int64) =>
 wp_X6_wordsOf M L r5 (fun (r6 : Int64) =>
 wp_X1_lowerOf_10 M L (M 12 11) (fun (r7 : Int64) =>
 wp_X6_wordsOf M L r7 (fun (r8 : Int64) =>
 Z (((r2 + r4) + r6) + r8)))))))))

def wp_X0_fragmentHeader_12 (M : cM) (L : cL)  (Z : Int32 → Prop) : Prop :=
  wp_X2_fragment_12 M L  (fun (r1 : Int32) =>
 ((r1 = 0 →
 Z (0 : Int32)) ∧
 (¬ r1 = 0 →
 Z (8 : Int32))))

def wp_X6_putSixHeader_0_3_12 (M : cM) (L : cL) (p2 : Int32) (p4 : Int32) (p5 : Int32) (p6 : Int32) (Z : cM → Prop) : Prop :=
  (∃ K24 : Int32 → Prop, (∀ (v1 : Int32), K24 v1 →
 wp_X4_put_3 M L p2 (4 : Int32) ((1610612736 : Int64) ||| (v1.toInt64)) (fun (M2 : cM) =>
 wp_X4_put_3 M2 L (p2 + (4 : Int32)) (2 : Int32) (p4.toInt64) (fun (M3 : cM) =>
 wp_X4_put_3 M3 L (p2 + (6 : Int32)) (1 : Int32) (p5.toInt64) (fun (M4 : cM) =>
 wp_X4_put_3 M4 L (p2 + (7 : Int32)) (1 : Int32) (p6.toInt64) (fun (M5 : cM) =>
 wp_X1_upperOf_10 M5 L (M5 12 10) (fun (r6 : Int64) =>
 wp_X4_put_3 M5 L (p2 + (8 : Int32)) (8 : Int32) r6 (fun (M7 : cM) =>
 wp_X1_lowerOf_10 M7 L (M7 12 10) (fun (r8 : Int64) =>
 wp_X4_put_3 M7 L (p2 + (16 : Int32)) (8 : Int32) r8 (fun (M9 : cM) =>
 wp_X1_upperOf_10 M9 L (M9 12 11) (fun (r10 : Int64) =>
 wp_X4_put_3 M9 L (p2 + (24 : Int32)) (8 : Int32) r10 (fun (M11 : cM) =>
 wp_X1_lowerOf_10 M11 L (M11 12 11) (fun (r12 : Int64) =>
 wp_X4_put_3 M11 L (p2 + (32 : Int32)) (8 : Int32) r12 (fun (M13 : cM) =>
 Z M13))))))))))))) ∧
 (((M 0 14) = 0 →
 K24 (0 : Int32)) ∧
 (¬ (M 0 14) = 0 →
 K24 ((M 12 1) <<< ((20 : Int32) &&& 31)))))

def wp_X6_putFragmentHeader_3 (M : cM) (L : cL) (p1 : Int32) (p2 : Int32) (p3 : Int32) (p4 : Int32) (p5 : Int32) (Z : cM → Prop) : Prop :=
  wp_X4_put_3 M L p1 (2 : Int32) ((p2 <<< ((8 : Int32) &&& 31)).toInt64) (fun (M1 : cM) =>
 (∃ K29 : Int32 → Prop, (∀ (v2 : Int32), K29 v2 →
 wp_X4_put_3 M1 L (p1 + (2 : Int32)) (2 : Int32) (((p3 <<< ((3 : Int32) &&& 31)) ||| v2).toInt64) (fun (M3 : cM) =>
 wp_X4_put_3 M3 L (p1 + (4 : Int32)) (4 : Int32) (p5.toInt64) (fun (M4 : cM) =>
 Z M4))) ∧
 ((p4 = 0 →
 K29 (0 : Int32)) ∧
 (¬ p4 = 0 →
 K29 (1 : Int32)))))

def wp_X6_putInnerSix_0_12 (M : cM) (L : cL)  (Z : Int32 → cM → Prop) : Prop :=
  (∃ K17 : Int32 → Prop, (∀ (v1 : Int32), K17 v1 →
 wp_X0_fragmentHeader_12 M L  (fun (r2 : Int32) =>
 wp_X2_fragment_12 M L  (fun (r3 : Int32) =>
 (∃ K50 : Int32 → Prop, (∀ (v4 : Int32), K50 v4 →
 wp_X6_putSixHeader_0_3_12 M L (8 : Int32) (r2 + (M 12 8)) v4 (M 12 2) (fun (M5 : cM) =>
 wp_X2_fragment_12 M5 L  (fun (r6 : Int32) =>
 (∃ K86 : cM → Prop, (∀ (M7 : cM), K86 M7 →
 ∀ x8 : Int32, x8 = ((48 : Int32) + r2) →
 wp_X4_copy_3_1 M7 L (M7 12 7) x8 (M7 12 9) (fun (M9 : cM) =>
 Z x8 M9)) ∧
 ((r6 = 0 →
 K86 M5) ∧
 (¬ r6 = 0 →
 wp_X6_putFragmentHeader_3 M5 L (48 : Int32) v1 (M5 12 6) (M5 12 5) (M5 12 4) (fun (M11 : cM) =>
 K86 M11))))))) ∧
 ((r3 = 0 →
 K50 v1) ∧
 (¬ r3 = 0 →
 K50 (44 : Int32))))))) ∧
 ((¬ (M 12 3) = (1 : Int32) →
 K17 (M 12 3)) ∧
 ((M 12 3) = (1 : Int32) →
 K17 (58 : Int32))))

def wp_X6_fixTransport_0_12 (M : cM) (L : cL) (p2 : Int32) (p3 : Int64) (p5 : Int32) (p6 : Int64) (Z : cM → Prop) : Prop :=
  (∃ K16 : Int32 → Prop, (∀ (v1 : Int32), K16 v1 →
 (∃ K41 : Int32 → Prop, (∀ (v2 : Int32), K41 v2 →
 ((v2 = 0 →
 Z M) ∧
 (¬ v2 = 0 →
 ((¬ (M 12 6) = 0 →
 Z M) ∧
 ((M 12 6) = 0 →
 (((v1 + (2 : Int32)) ≤ (M 12 9) →
 wp_X4_word_3 M L (p2 + v1) (fun (r6 : Int32) =>
 ((¬ (M 12 3) = (6 : Int32) →
 ((r6 = 0 →
 Z M) ∧
 (¬ r6 = 0 →
 wp_X6_adjusted M L r6 p3 p5 p6 (fun (r9 : Int32) =>
 (∃ K155 : Int64 → Prop, (∀ (v10 : Int64), K155 v10 →
 wp_X4_put_3 M L (p2 + v1) (2 : Int32) v10 (fun (M11 : cM) =>
 Z M11)) ∧
 ((¬ r9 = 0 →
 K155 (r9.toInt64)) ∧
 (r9 = 0 →
 K155 (65535 : Int64)))))))) ∧
 ((M 12 3) = (6 : Int32) →
 wp_X6_adjusted M L r6 p3 p5 p6 (fun (r13 : Int32) =>
 wp_X4_put_3 M L (p2 + v1) (2 : Int32) (r13.toInt64) (fun (M14 : cM) =>
 Z M14)))))) ∧
 (¬ (v1 + (2 : Int32)) ≤ (M 12 9) →
 Z M))))))) ∧
 ∃ K36 : Prop, (K36  →
 K41 (1 : Int32)) ∧
 (((M 12 3) = (17 : Int32) →
 K36) ∧
 (¬ (M 12 3) = (17 : Int32) →
 ((¬ (M 12 3) = (6 : Int32) →
 K41 (0 : Int32)) ∧
 ((M 12 3) = (6 : Int32) →
 K36)))))) ∧
 ((¬ (M 12 3) = (17 : Int32) →
 K16 (16 : Int32)) ∧
 ((M 12 3) = (17 : Int32) →
 K16 (6 : Int32))))

def wp_X6_fixToSix_0_12 (M : cM) (L : cL) (p2 : Int32) (Z : cM → Prop) : Prop :=
  ((¬ (M 12 3) = (1 : Int32) →
 wp_X6_fixTransport_0_12 M L p2 (L 12 12) (4 : Int32) (L 12 13) (fun (M2 : cM) =>
 Z M2)) ∧
 ((M 12 3) = (1 : Int32) →
 wp_X4_word_3 M L p2 (fun (r3 : Int32) =>
 (∃ K35 : Int32 → Prop, (∀ (v4 : Int32), K35 v4 →
 ∀ x5 : Int32, x5 = ((v4 <<< ((8 : Int32) &&& 31)) ||| (r3 &&& (255 : Int32))) →
 wp_X4_put_3 M L p2 (2 : Int32) (x5.toInt64) (fun (M6 : cM) =>
 ∀ x7 : Int64, x7 = ((((x5.toInt64) + (L 12 13)) + ((M6 12 8).toInt64)) + (58 : Int64)) →
 wp_X4_word_3 M6 L (p2 + (2 : Int32)) (fun (r8 : Int32) =>
 wp_X6_adjusted M6 L r8 (r3.toInt64) (1 : Int32) x7 (fun (r9 : Int32) =>
 wp_X4_put_3 M6 L (p2 + (2 : Int32)) (2 : Int32) (r9.toInt64) (fun (M10 : cM) =>
 Z M10))))) ∧
 ((¬ (r3 >>> ((8 : Int32) &&& 31)) = (8 : Int32) →
 K35 (129 : Int32)) ∧
 ((r3 >>> ((8 : Int32) &&& 31)) = (8 : Int32) →
 K35 (128 : Int32)))))))

def wp_X6_putMessage_0 (M : cM) (L : cL) (p1 : Int32) (p2 : Int32) (p3 : Int64) (Z : cM → Prop) : Prop :=
  wp_X4_put_3 M L (0 : Int32) (2 : Int32) (p1.toInt64) (fun (M1 : cM) =>
 wp_X4_put_3 M1 L (2 : Int32) (2 : Int32) (0 : Int64) (fun (M2 : cM) =>
 wp_X4_put_3 M2 L (4 : Int32) (4 : Int32) (p2.toInt64) (fun (M3 : cM) =>
 wp_X4_sum_3 M3 L (0 : Int32) (M3 3 1) (fun (r4 : Int64) =>
 wp_X6_checksum M3 L (p3 + r4) (fun (r5 : Int32) =>
 wp_X4_put_3 M3 L (2 : Int32) (2 : Int32) (r5.toInt64) (fun (M6 : cM) =>
 Z M6))))))

def wp_X6_errorFromFour_0_11_12 (M : cM) (L : cL)  (Z : Int32 → cM → cL → Prop) : Prop :=
  ∀ x1 : Int32, x1 = ((M 11 7) + (M 11 8)) →
 wp_X4_sum_1 M L (M 11 7) x1 (fun (r2 : Int64) =>
 wp_X6_folded M L r2 (fun (r3 : Int32) =>
 ((r3 = (65535 : Int32) →
 wp_X4_at_1 M L (M 11 7) (fun (r5 : Int32) =>
 wp_X4_at_1 M L ((M 11 7) + (1 : Int32)) (fun (r6 : Int32) =>
 wp_X6_errorToSix M L r5 r6 (fun (r7 : Int32) =>
 ((r7 = (-1 : Int32) →
 Z (8 : Int32) M L) ∧
 (¬ r7 = (-1 : Int32) →
 wp_X0_read_12_1 M L ((M 11 7) + (8 : Int32)) x1 (fun (r9 : Int32) (M10 : cM) (L11 : cL) =>
 ((r9 = 0 →
 Z (8 : Int32) M10 L11) ∧
 (¬ r9 = 0 →
 wp_X6_innerFourFits_0_12 M10 L11  (fun (r13 : Int32) =>
 ((¬ r13 = 0 →
 wp_X6_secondToSix_0_11_12 M10 L11 r7 (fun (r15 : Int32) =>
 ((¬ r15 = (-1 : Int32) →
 wp_X6_imageWords_0_12 M10 L11  (fun (r17 : Int64) =>
 ∀ L18 : cL, L18 = ml L11 12 13 r17 →
 wp_X6_putInnerSix_0_12 M10 L18  (fun (r19 : Int32) (M20 : cM) =>
 wp_X6_fixToSix_0_12 M20 L18 r19 (fun (M21 : cM) =>
 ∀ M22 : cM, M22 = mu M21 3 1 (if (1240 : Int32) < (r19 + (M21 12 9)) then (1240 : Int32) else (r19 + (M21 12 9))) →
 wp_X6_putMessage_0 M22 L18 r7 r15 (((L18 11 13) + ((M22 3 1).toInt64)) + (58 : Int64)) (fun (M23 : cM) =>
 Z (0 : Int32) M23 L18))))) ∧
 (r15 = (-1 : Int32) →
 Z (8 : Int32) M10 L11)))) ∧
 (r13 = 0 →
 Z (8 : Int32) M10 L11)))))))))))) ∧
 (¬ r3 = (65535 : Int32) →
 Z (4 : Int32) M L))))

def wp_X6_verdictOnFour_0_11 (M : cM) (L : cL)  (Z : Int32 → cM → cL → Prop) : Prop :=
  wp_X0_readWhole_11_1 M L  (fun (r1 : Int32) (M2 : cM) (L3 : cL) =>
 ((¬ r1 = 0 →
 wp_X1_mappable_10 M2 L3 (M2 11 10) (fun (r5 : Int32) =>
 ((¬ r5 = 0 →
 wp_X1_mappable_10 M2 L3 (M2 11 11) (fun (r7 : Int32) =>
 ((¬ r7 = 0 →
 (((M2 11 17) = 0 →
 (((1 : Int32) < (M2 11 2) →
 wp_X6_faultOfFour_0_11 M2 L3  (fun (r11 : Int32) =>
 ((r11 = 0 →
 wp_X6_imageWords_0_11 M2 L3  (fun (r13 : Int64) =>
 ∀ L14 : cL, L14 = ml L3 11 13 r13 →
 (∃ K144 : Int32 → cM → cL → Prop, (∀ (x15 : Int32) (M16 : cM) (L17 : cL), K144 x15 M16 L17 →
 ((x15 = 0 →
 (∃ K195 : Prop, (K195  →
 wp_X6_sendSix_0_11 M16 L17  (fun (M19 : cM) =>
 Z (0 : Int32) M19 L17)) ∧
 (((M16 11 16) = 0 →
 K195) ∧
 (¬ (M16 11 16) = 0 →
 wp_X0_fragmentHeader_11 M16 L17  (fun (r21 : Int32) =>
 (((((40 : Int32) + r21) + (M16 3 1)) ≤ (M16 0 13) →
 K195) ∧
 (¬ (((40 : Int32) + r21) + (M16 3 1)) ≤ (M16 0 13) →
 wp_X6_answerFour_0_11 M16 L17 (772 : Int32) ((M16 0 13) - (20 : Int32)) (fun (r23 : Int32) (M24 : cM) =>
 Z r23 M24 L17)))))))) ∧
 (¬ x15 = 0 →
 Z x15 M16 L17))) ∧
 ∃ K139 : Prop, (K139  →
 wp_X6_bodyFromFour_0_11 M2 L14  (fun (M25 : cM) =>
 K144 r11 M25 L14)) ∧
 ((¬ (M2 11 3) = (1 : Int32) →
 K139) ∧
 ((M2 11 3) = (1 : Int32) →
 wp_X4_at_1 M2 L14 (M2 11 7) (fun (r27 : Int32) =>
 wp_X6_isErrorFour M2 L14 r27 (fun (r28 : Int32) =>
 ((r28 = 0 →
 K139) ∧
 (¬ r28 = 0 →
 wp_X6_errorFromFour_0_11_12 M2 L14  (fun (r30 : Int32) (M31 : cM) (L32 : cL) =>
 K144 r30 M31 L32)))))))))) ∧
 (¬ r11 = 0 →
 Z r11 M2 L3)))) ∧
 (¬ (1 : Int32) < (M2 11 2) →
 wp_X6_answerFour_0_11 M2 L3 (2816 : Int32) (0 : Int32) (fun (r33 : Int32) (M34 : cM) =>
 Z r33 M34 L3)))) ∧
 (¬ (M2 11 17) = 0 →
 wp_X6_answerFour_0_11 M2 L3 (773 : Int32) (0 : Int32) (fun (r35 : Int32) (M36 : cM) =>
 Z r35 M36 L3)))) ∧
 (r7 = 0 →
 Z (3 : Int32) M2 L3)))) ∧
 (r5 = 0 →
 Z (2 : Int32) M2 L3)))) ∧
 (r1 = 0 →
 Z (1 : Int32) M2 L3)))

def wp_X6_finish_0 (M : cM) (L : cL) (p1 : Int32) (Z : cM → Prop) : Prop :=
  ∀ M1 : cM, M1 = mu M 1 1 (0 : Int32) →
 ((p1 < 0 →
 Z M1) ∧
 (¬ p1 < 0 →
 (((11 : Int32) ≤ p1 →
 Z M1) ∧
 (¬ (11 : Int32) ≤ p1 →
 (vp_in p1 11 ∧
 (vp_in p1 11 ∧
 ∀ M4 : cM, M4 = mu M1 15 p1.toNatClampNeg ((M1 15 p1.toNatClampNeg) + (1 : Int32)) →
 Z M4))))))

def wp_X6_four_0 (M : cM) (L : cL)  (Z : Int32 → cM → cL → Prop) : Prop :=
  wp_X3_clear_5 M L  (fun (M1 : cM) =>
 wp_X6_verdictOnFour_0_11 M1 L  (fun (r2 : Int32) (M3 : cM) (L4 : cL) =>
 wp_X6_finish_0 M3 L4 r2 (fun (M5 : cM) =>
 Z r2 M5 L4)))

def wp_X5_forgetHeaders_13 (M : cM) (L : cL)  (Z : cM → Prop) : Prop :=
  ∀ M1 : cM, M1 = mu M 13 14 (0 : Int32) →
 ∀ M2 : cM, M2 = mu M1 13 5 (0 : Int32) →
 ∀ M3 : cM, M3 = mu M2 13 6 (0 : Int32) →
 ∀ M4 : cM, M4 = mu M3 13 4 (0 : Int32) →
 ∀ M5 : cM, M5 = mu M4 13 15 (-1 : Int32) →
 Z M5

def wp_X5_isHeader (M : cM) (L : cL) (p0 : Int32) (Z : Int32 → Prop) : Prop :=
  ((p0 = 0 →
 Z (1 : Int32)) ∧
 (¬ p0 = 0 →
 ((p0 = (43 : Int32) →
 Z (1 : Int32)) ∧
 (¬ p0 = (43 : Int32) →
 ((p0 = (44 : Int32) →
 Z (1 : Int32)) ∧
 (¬ p0 = (44 : Int32) →
 ((¬ p0 = (60 : Int32) →
 Z (0 : Int32)) ∧
 (p0 = (60 : Int32) →
 Z (1 : Int32)))))))))

def wp_X5_readFragmentHeader_13_1 (M : cM) (L : cL) (p2 : Int32) (Z : cM → Prop) : Prop :=
  ∀ M1 : cM, M1 = mu M 13 14 (1 : Int32) →
 wp_X4_word_1 M1 L (p2 + (2 : Int32)) (fun (r2 : Int32) =>
 ∀ M3 : cM, M3 = mu M1 13 6 (r2 >>> ((3 : Int32) &&& 31)) →
 (∃ K32 : Int32 → Prop, (∀ (v4 : Int32), K32 v4 →
 (isB v4 ∧
 ∀ M5 : cM, M5 = mu M3 13 5 v4 →
 wp_X4_word_1 M5 L (p2 + (6 : Int32)) (fun (r6 : Int32) =>
 ∀ M7 : cM, M7 = mu M5 13 4 r6 →
 Z M7))) ∧
 (((r2 &&& (1 : Int32)) = 0 →
 K32 (0 : Int32)) ∧
 (¬ (r2 &&& (1 : Int32)) = 0 →
 K32 (1 : Int32)))))

def wp_X5_readHeaders_13_1 (M : cM) (L : cL) (p2 : Int32) (Z : Int32 → cM → Prop) : Prop :=
  wp_X4_at_1 M L ((M 13 0) + (6 : Int32)) (fun (r1 : Int32) =>
 ∀ x2 : Int32, x2 = ((M 13 0) + (40 : Int32)) →
 wp_X5_forgetHeaders_13 M L  (fun (M3 : cM) =>
 ∃ (I28 : Int32 → Int32 → Int32 → cM → Prop) (m28 : Int32 → Int32 → Int32 → cM → Nat), I28 r1 x2 (0 : Int32) M3 ∧ ∀ (x4 : Int32) (x5 : Int32) (x6 : Int32) (M7 : cM), I28 x4 x5 x6 M7 →
 (∃ K172 : Prop, (K172  →
 ∀ M8 : cM, M8 = mu M7 13 3 x4 →
 ∀ M9 : cM, M9 = mu M8 13 7 x5 →
 Z (1 : Int32) M9) ∧
 (((300 : Int32) ≤ x6 →
 K172) ∧
 (¬ (300 : Int32) ≤ x6 →
 wp_X5_isHeader M7 L x4 (fun (r11 : Int32) =>
 ((r11 = 0 →
 K172) ∧
 (¬ r11 = 0 →
 ((¬ (M7 13 6) = 0 →
 K172) ∧
 ((M7 13 6) = 0 →
 (∃ K75 : Int32 → Prop, (∀ (v14 : Int32), K75 v14 →
 ((p2 < (x5 + v14) →
 Z (0 : Int32) M7) ∧
 (¬ p2 < (x5 + v14) →
 (∃ K101 : Prop, (K101  →
 (∃ K114 : cM → Prop, (∀ (M16 : cM), K114 M16 →
 (∃ K152 : cM → Prop, (∀ (M17 : cM), K152 M17 →
 wp_X4_at_1 M17 L x5 (fun (r18 : Int32) =>
 ∀ x19 : Int32, x19 = (x5 + v14) →
 ∀ x20 : Int32, x20 = (x6 + (1 : Int32)) →
 (I28 r18 x19 x20 M17 ∧ m28 r18 x19 x20 M17 < m28 x4 x5 x6 M7))) ∧
 ((¬ x4 = (43 : Int32) →
 K152 M16) ∧
 (x4 = (43 : Int32) →
 ((¬ (M16 13 15) = (-1 : Int32) →
 K152 M16) ∧
 ((M16 13 15) = (-1 : Int32) →
 wp_X4_at_1 M16 L (x5 + (3 : Int32)) (fun (r23 : Int32) =>
 ((r23 = 0 →
 K152 M16) ∧
 (¬ r23 = 0 →
 ∀ M25 : cM, M25 = mu M16 13 15 ((x5 + (3 : Int32)) - (M16 13 0)) →
 K152 M25))))))))) ∧
 ((¬ x4 = (44 : Int32) →
 K114 M7) ∧
 (x4 = (44 : Int32) →
 wp_X5_readFragmentHeader_13_1 M7 L x5 (fun (M27 : cM) =>
 K114 M27))))) ∧
 ((¬ x4 = (44 : Int32) →
 K101) ∧
 (x4 = (44 : Int32) →
 (((M7 13 14) = 0 →
 K101) ∧
 (¬ (M7 13 14) = 0 →
 Z (0 : Int32) M7)))))))) ∧
 ((¬ x4 = (44 : Int32) →
 wp_X4_at_1 M7 L (x5 + (1 : Int32)) (fun (r31 : Int32) =>
 K75 ((8 : Int32) + ((8 : Int32) * r31)))) ∧
 (x4 = (44 : Int32) →
 K75 (8 : Int32))))))))))))))

def wp_X5_read_13_1 (M : cM) (L : cL) (p2 : Int32) (p3 : Int32) (Z : Int32 → cM → cL → Prop) : Prop :=
  (((p3 - p2) < (40 : Int32) →
 Z (0 : Int32) M L) ∧
 (¬ (p3 - p2) < (40 : Int32) →
 wp_X4_at_1 M L p2 (fun (r2 : Int32) =>
 (((r2 >>> ((4 : Int32) &&& 31)) = (6 : Int32) →
 ∀ M4 : cM, M4 = mu M 13 0 p2 →
 wp_X4_word_1 M4 L p2 (fun (r5 : Int32) =>
 ∀ M6 : cM, M6 = mu M4 13 1 ((r5 >>> ((4 : Int32) &&& 31)) &&& (255 : Int32)) →
 wp_X4_at_1 M6 L (p2 + (7 : Int32)) (fun (r7 : Int32) =>
 ∀ M8 : cM, M8 = mu M6 13 2 r7 →
 wp_X4_sum_1 M8 L (p2 + (8 : Int32)) (p2 + (40 : Int32)) (fun (r9 : Int64) =>
 ∀ L10 : cL, L10 = ml L 13 13 r9 →
 wp_X4_word_1 M8 L10 (p2 + (4 : Int32)) (fun (r11 : Int32) =>
 ∀ x12 : Int32, x12 = ((p2 + (40 : Int32)) + r11) →
 ∀ x13 : Int32, x13 = (if x12 < p3 then x12 else p3) →
 wp_X5_readHeaders_13_1 M8 L10 x13 (fun (r14 : Int32) (M15 : cM) =>
 ((¬ r14 = 0 →
 ∀ M17 : cM, M17 = mu M15 13 8 (x12 - (M15 13 7)) →
 ∀ M18 : cM, M18 = mu M17 13 9 (x13 - (M17 13 7)) →
 Z (1 : Int32) M18 L10) ∧
 (r14 = 0 →
 Z (0 : Int32) M15 L10)))))))) ∧
 (¬ (r2 >>> ((4 : Int32) &&& 31)) = (6 : Int32) →
 Z (0 : Int32) M L)))))

def wp_X2_fragment_13 (M : cM) (L : cL)  (Z : Int32 → Prop) : Prop :=
  ((¬ (M 13 5) = 0 →
 Z (1 : Int32)) ∧
 ((M 13 5) = 0 →
 (((M 13 6) = 0 →
 Z (0 : Int32)) ∧
 (¬ (M 13 6) = 0 →
 Z (1 : Int32)))))

def wp_X2_endsTooFar_13 (M : cM) (L : cL)  (Z : Int32 → Prop) : Prop :=
  wp_X2_fragment_13 M L  (fun (r1 : Int32) =>
 ((r1 = 0 →
 Z (0 : Int32)) ∧
 (¬ r1 = 0 →
 (((((M 13 6) * (8 : Int32)) + (M 13 8)) ≤ (65535 : Int32) →
 Z (0 : Int32)) ∧
 (¬ (((M 13 6) * (8 : Int32)) + (M 13 8)) ≤ (65535 : Int32) →
 Z (1 : Int32))))))

def wp_X5_readWhole_13_1 (M : cM) (L : cL)  (Z : Int32 → cM → cL → Prop) : Prop :=
  (((M 1 1) < (40 : Int32) →
 Z (0 : Int32) M L) ∧
 (¬ (M 1 1) < (40 : Int32) →
 wp_X4_word_1 M L (4 : Int32) (fun (r2 : Int32) =>
 (((M 1 1) < ((40 : Int32) + r2) →
 Z (0 : Int32) M L) ∧
 (¬ (M 1 1) < ((40 : Int32) + r2) →
 wp_X5_read_13_1 M L (0 : Int32) (M 1 1) (fun (r4 : Int32) (M5 : cM) (L6 : cL) =>
 ((¬ r4 = 0 →
 (∃ K56 : Prop, (K56  →
 wp_X2_endsTooFar_13 M5 L6  (fun (r8 : Int32) =>
 ((¬ r8 = 0 →
 Z (0 : Int32) M5 L6) ∧
 (r8 = 0 →
 Z (1 : Int32) M5 L6)))) ∧
 (((M5 13 5) = 0 →
 K56) ∧
 (¬ (M5 13 5) = 0 →
 ((¬ ((M5 13 8) - (M5 13 8) / (8 : Int32) * (8 : Int32)) = 0 →
 Z (0 : Int32) M5 L6) ∧
 (((M5 13 8) - (M5 13 8) / (8 : Int32) * (8 : Int32)) = 0 →
 K56)))))) ∧
 (r4 = 0 →
 Z (0 : Int32) M5 L6))))))))

def wp_X1_fourOf_10 (M : cM) (L : cL) (p1 : Int64) (p3 : Int64) (Z : Int64 → Prop) : Prop :=
  (∃ K29 : Int64 → Prop, (∀ (v1 : Int64), K29 v1 →
 ∀ x2 : Int32, x2 = (v1.toInt32) →
 wp_X1_upperOf_10 M L x2 (fun (r3 : Int64) =>
 (∃ K63 : Int32 → Prop, (∀ (v4 : Int32), K63 v4 →
 ((v4 = 0 →
 Z (-1 : Int64)) ∧
 (¬ v4 = 0 →
 wp_X1_mappable_10 M L x2 (fun (r6 : Int32) =>
 ((r6 = 0 →
 Z (-1 : Int64)) ∧
 (¬ r6 = 0 →
 Z ((x2.toInt64) &&& (4294967295 : Int64)))))))) ∧
 ∃ K62 : Prop, (K62  →
 K63 (0 : Int32)) ∧
 ((¬ (lg_cmp r3 p1) = 0 →
 K62) ∧
 ((lg_cmp r3 p1) = 0 →
 wp_X1_lowerOf_10 M L x2 (fun (r9 : Int64) =>
 ((¬ (lg_cmp r9 p3) = 0 →
 K62) ∧
 ((lg_cmp r9 p3) = 0 →
 K63 (1 : Int32))))))))) ∧
 ((¬ (M 10 2) = (96 : Int32) →
 wp_X1_bitsBehind_10 M L  (fun (r12 : Int32) =>
 wp_X1_bitsBehind_10 M L  (fun (r13 : Int32) =>
 K29 ((p1 <<< (r12.toInt64 &&& 63)) ||| ((p3.toUInt64 >>> (((56 : Int32) - r13).toInt64.toUInt64 &&& Int64.toUInt64 63)).toInt64))))) ∧
 ((M 10 2) = (96 : Int32) →
 K29 p3)))

def wp_X5_setFour_13 (M : cM) (L : cL) (p1 : Int64) (p3 : Int64) (Z : cM → cL → Prop) : Prop :=
  ∀ M1 : cM, M1 = mu M 13 10 (p1.toInt32) →
 ∀ M2 : cM, M2 = mu M1 13 11 (p3.toInt32) →
 wp_X6_wordsOf M2 L ((p1 <<< ((32 : Int32).toInt64 &&& 63)) ||| p3) (fun (r3 : Int64) =>
 ∀ L4 : cL, L4 = ml L 13 12 r3 →
 Z M2 L4)

def wp_X6_neverFromSix (M : cM) (L : cL) (p0 : Int32) (Z : Int32 → Prop) : Prop :=
  wp_X6_neverFromEither M L p0 (fun (r1 : Int32) =>
 ((¬ r1 = 0 →
 Z (1 : Int32)) ∧
 (r1 = 0 →
 ((¬ p0 = (1 : Int32) →
 Z (0 : Int32)) ∧
 (p0 = (1 : Int32) →
 Z (1 : Int32))))))

def wp_X6_faultOfTransport_0_13 (M : cM) (L : cL) (p2 : Int32) (Z : Int32 → Prop) : Prop :=
  (∃ K14 : Int32 → Prop, (∀ (v1 : Int32), K14 v1 →
 (∃ K37 : Int32 → Prop, (∀ (v2 : Int32), K37 v2 →
 ((¬ (M 13 6) = 0 →
 Z (0 : Int32)) ∧
 ((M 13 6) = 0 →
 (∃ K66 : Prop, (K66  →
 (∃ K86 : Int32 → Prop, (∀ (v4 : Int32), K86 v4 →
 ((v4 ≤ (M 13 8) →
 (∃ K124 : Prop, (K124  →
 ((v1 = 0 →
 Z (0 : Int32)) ∧
 (¬ v1 = 0 →
 ((¬ p2 = 0 →
 Z (0 : Int32)) ∧
 (p2 = 0 →
 wp_X4_word_1 M L ((M 13 7) + (6 : Int32)) (fun (r8 : Int32) =>
 ((¬ r8 = 0 →
 Z (0 : Int32)) ∧
 (r8 = 0 →
 Z (7 : Int32))))))))) ∧
 ((v1 = 0 →
 K124) ∧
 (¬ v1 = 0 →
 ((¬ (M 13 5) = 0 →
 K124) ∧
 ((M 13 5) = 0 →
 wp_X4_word_1 M L ((M 13 7) + (4 : Int32)) (fun (r12 : Int32) =>
 ((r12 = (M 13 8) →
 K124) ∧
 (¬ r12 = (M 13 8) →
 Z (4 : Int32)))))))))) ∧
 (¬ v4 ≤ (M 13 8) →
 Z (4 : Int32)))) ∧
 ((¬ (M 13 3) = (6 : Int32) →
 K86 (8 : Int32)) ∧
 ((M 13 3) = (6 : Int32) →
 K86 (20 : Int32))))) ∧
 ((¬ v1 = 0 →
 K66) ∧
 (v1 = 0 →
 ((¬ v2 = 0 →
 K66) ∧
 (v2 = 0 →
 (((M 13 3) = (6 : Int32) →
 K66) ∧
 (¬ (M 13 3) = (6 : Int32) →
 Z (0 : Int32))))))))))) ∧
 ∃ K32 : Prop, (K32  →
 K37 (1 : Int32)) ∧
 (((M 13 3) = (1 : Int32) →
 K32) ∧
 (¬ (M 13 3) = (1 : Int32) →
 ((¬ (M 13 3) = (58 : Int32) →
 K37 (0 : Int32)) ∧
 ((M 13 3) = (58 : Int32) →
 K32)))))) ∧
 ((¬ (M 13 3) = (17 : Int32) →
 K14 (0 : Int32)) ∧
 ((M 13 3) = (17 : Int32) →
 K14 (1 : Int32))))

def wp_X6_isEchoSix (M : cM) (L : cL) (p0 : Int32) (Z : Int32 → Prop) : Prop :=
  ((p0 = (128 : Int32) →
 Z (1 : Int32)) ∧
 (¬ p0 = (128 : Int32) →
 ((¬ p0 = (129 : Int32) →
 Z (0 : Int32)) ∧
 (p0 = (129 : Int32) →
 Z (1 : Int32)))))

def wp_X6_isErrorSix (M : cM) (L : cL) (p0 : Int32) (Z : Int32 → Prop) : Prop :=
  ((p0 < (1 : Int32) →
 Z (0 : Int32)) ∧
 (¬ p0 < (1 : Int32) →
 (((4 : Int32) < p0 →
 Z (0 : Int32)) ∧
 (¬ (4 : Int32) < p0 →
 Z (1 : Int32)))))

def wp_X6_faultOfSix_0_13 (M : cM) (L : cL)  (Z : Int32 → Prop) : Prop :=
  wp_X6_neverFromSix M L (M 13 3) (fun (r1 : Int32) =>
 ((r1 = 0 →
 (∃ K31 : Prop, (K31  →
 wp_X6_faultOfTransport_0_13 M L (0 : Int32) (fun (r3 : Int32) =>
 ((¬ r3 = 0 →
 Z r3) ∧
 (r3 = 0 →
 (((M 13 3) = (58 : Int32) →
 wp_X4_at_1 M L (M 13 7) (fun (r6 : Int32) =>
 wp_X6_isEchoSix M L r6 (fun (r7 : Int32) =>
 ((¬ r7 = 0 →
 Z (0 : Int32)) ∧
 (r7 = 0 →
 wp_X6_isErrorSix M L r6 (fun (r9 : Int32) =>
 ((r9 = 0 →
 Z (6 : Int32)) ∧
 (¬ r9 = 0 →
 Z (0 : Int32))))))))) ∧
 (¬ (M 13 3) = (58 : Int32) →
 Z r3)))))) ∧
 ((¬ (M 13 3) = (58 : Int32) →
 K31) ∧
 ((M 13 3) = (58 : Int32) →
 wp_X2_fragment_13 M L  (fun (r12 : Int32) =>
 ((r12 = 0 →
 K31) ∧
 (¬ r12 = 0 →
 Z (5 : Int32)))))))) ∧
 (¬ r1 = 0 →
 Z (6 : Int32))))

def wp_X5_flags_13 (M : cM) (L : cL) (p1 : Int32) (Z : Int32 → Prop) : Prop :=
  ((¬ (M 13 14) = 0 →
 (((M 13 5) = 0 →
 Z ((M 13 6) ||| (0 : Int32))) ∧
 (¬ (M 13 5) = 0 →
 Z ((M 13 6) ||| (8192 : Int32))))) ∧
 ((M 13 14) = 0 →
 ((p1 ≤ (1260 : Int32) →
 Z (0 : Int32)) ∧
 (¬ p1 ≤ (1260 : Int32) →
 Z (16384 : Int32)))))

def wp_X6_identFor_0_13 (M : cM) (L : cL) (p2 : Int32) (Z : Int32 → cM → Prop) : Prop :=
  (((M 13 14) = 0 →
 (((p2 &&& (16384 : Int32)) = 0 →
 ∀ M3 : cM, M3 = mu M 0 16 (((M 0 16) + (1 : Int32)) &&& (65535 : Int32)) →
 Z (M3 0 16) M3) ∧
 (¬ (p2 &&& (16384 : Int32)) = 0 →
 Z (0 : Int32) M))) ∧
 (¬ (M 13 14) = 0 →
 Z (M 13 4) M))

def wp_X6_putFourHeader_0_6_13 (M : cM) (L : cL) (p2 : Int32) (p4 : Int32) (p5 : Int32) (p6 : Int32) (p7 : Int32) (Z : cM → Prop) : Prop :=
  wp_X4_put_6 M L p2 (1 : Int32) (69 : Int64) (fun (M1 : cM) =>
 (∃ K30 : Int64 → Prop, (∀ (v2 : Int64), K30 v2 →
 wp_X4_put_6 M1 L (p2 + (1 : Int32)) (1 : Int32) v2 (fun (M3 : cM) =>
 wp_X4_put_6 M3 L (p2 + (2 : Int32)) (2 : Int32) (p4.toInt64) (fun (M4 : cM) =>
 wp_X4_put_6 M4 L (p2 + (4 : Int32)) (2 : Int32) (p6.toInt64) (fun (M5 : cM) =>
 wp_X4_put_6 M5 L (p2 + (6 : Int32)) (2 : Int32) (p5.toInt64) (fun (M6 : cM) =>
 wp_X4_put_6 M6 L (p2 + (8 : Int32)) (1 : Int32) (p7.toInt64) (fun (M7 : cM) =>
 (∃ K103 : Int64 → Prop, (∀ (v8 : Int64), K103 v8 →
 wp_X4_put_6 M7 L (p2 + (9 : Int32)) (1 : Int32) v8 (fun (M9 : cM) =>
 wp_X4_put_6 M9 L (p2 + (10 : Int32)) (2 : Int32) (0 : Int64) (fun (M10 : cM) =>
 wp_X4_put_6 M10 L (p2 + (12 : Int32)) (4 : Int32) ((M10 13 10).toInt64) (fun (M11 : cM) =>
 wp_X4_put_6 M11 L (p2 + (16 : Int32)) (4 : Int32) ((M11 13 11).toInt64) (fun (M12 : cM) =>
 wp_X4_sum_6 M12 L p2 (p2 + (20 : Int32)) (fun (r13 : Int64) =>
 wp_X6_checksum M12 L r13 (fun (r14 : Int32) =>
 wp_X4_put_6 M12 L (p2 + (10 : Int32)) (2 : Int32) (r14.toInt64) (fun (M15 : cM) =>
 Z M15)))))))) ∧
 ((¬ (M7 13 3) = (58 : Int32) →
 K103 ((M7 13 3).toInt64)) ∧
 ((M7 13 3) = (58 : Int32) →
 K103 (1 : Int64)))))))))) ∧
 (((M1 0 14) = 0 →
 K30 (0 : Int64)) ∧
 (¬ (M1 0 14) = 0 →
 K30 ((M1 13 1).toInt64)))))

def wp_X6_sendFour_0_13 (M : cM) (L : cL)  (Z : cM → Prop) : Prop :=
  wp_X5_flags_13 M L ((20 : Int32) + (M 3 1)) (fun (r1 : Int32) =>
 wp_X6_identFor_0_13 M L r1 (fun (r2 : Int32) (M3 : cM) =>
 ∀ x4 : Int32, x4 = ((M3 0 12) - (20 : Int32)) →
 ∃ (I37 : Int32 → Int32 → cM → Prop) (m37 : Int32 → Int32 → cM → Nat), I37 (0 : Int32) (0 : Int32) M3 ∧ ∀ (x5 : Int32) (x6 : Int32) (M7 : cM), I37 x5 x6 M7 →
 (((49 : Int32) ≤ x6 →
 Z M7) ∧
 (¬ (49 : Int32) ≤ x6 →
 (((M7 3 1) < x5 →
 Z M7) ∧
 (¬ (M7 3 1) < x5 →
 ∀ x10 : Int32, x10 = ((M7 3 1) - x5) →
 (∃ K88 : Int32 → Prop, (∀ (v11 : Int32), K88 v11 →
 wp_X3_open_5 M7 L ((20 : Int32) + v11) (fun (r12 : Int32) (M13 : cM) =>
 (∃ K118 : Int32 → Prop, (∀ (v14 : Int32), K118 v14 →
 wp_X6_putFourHeader_0_6_13 M13 L r12 ((20 : Int32) + v11) ((r1 ||| v14) + (x5 / (8 : Int32))) r2 ((M13 13 2) - (1 : Int32)) (fun (M15 : cM) =>
 wp_X4_copy_6_3 M15 L x5 (r12 + (20 : Int32)) v11 (fun (M16 : cM) =>
 ((¬ v11 = x10 →
 ∀ x18 : Int32, x18 = (x5 + v11) →
 ∀ x19 : Int32, x19 = (x6 + (1 : Int32)) →
 (I37 x18 x19 M16 ∧ m37 x18 x19 M16 < m37 x5 x6 M7)) ∧
 (v11 = x10 →
 Z M16))))) ∧
 ((x10 ≤ v11 →
 K118 (0 : Int32)) ∧
 (¬ x10 ≤ v11 →
 K118 (8192 : Int32)))))) ∧
 ((x4 < x10 →
 K88 ((x4 / (8 : Int32)) * (8 : Int32))) ∧
 (¬ x4 < x10 →
 K88 x10)))))))))

def wp_X6_answerSix_0_13 (M : cM) (L : cL) (p2 : Int32) (p3 : Int32) (Z : Int32 → cM → Prop) : Prop :=
  (∃ K29 : Int32 → Prop, (∀ (v1 : Int32), K29 v1 →
 ((¬ (M 13 6) = 0 →
 Z (9 : Int32) M) ∧
 ((M 13 6) = 0 →
 (∃ K55 : Prop, (K55  →
 ∀ x3 : Int32, x3 = (if (1232 : Int32) < ((M 13 7) + (M 13 8)) then (1232 : Int32) else ((M 13 7) + (M 13 8))) →
 ∀ x4 : Int32, x4 = ((8 : Int32) + x3) →
 wp_X3_open_5 M L ((40 : Int32) + x4) (fun (r5 : Int32) (M6 : cM) =>
 wp_X4_put_6 M6 L r5 (4 : Int32) (1610612736 : Int64) (fun (M7 : cM) =>
 wp_X4_put_6 M7 L (r5 + (4 : Int32)) (2 : Int32) (x4.toInt64) (fun (M8 : cM) =>
 wp_X4_put_6 M8 L (r5 + (6 : Int32)) (1 : Int32) (58 : Int64) (fun (M9 : cM) =>
 wp_X4_put_6 M9 L (r5 + (7 : Int32)) (1 : Int32) (64 : Int64) (fun (M10 : cM) =>
 wp_X4_put_6 M10 L (r5 + (8 : Int32)) (8 : Int32) (L 0 10) (fun (M11 : cM) =>
 wp_X4_put_6 M11 L (r5 + (16 : Int32)) (8 : Int32) (L 0 11) (fun (M12 : cM) =>
 wp_X4_copy_6_1 M12 L (8 : Int32) (r5 + (24 : Int32)) (16 : Int32) (fun (M13 : cM) =>
 ∀ x14 : Int32, x14 = (r5 + (40 : Int32)) →
 wp_X4_put_6 M13 L x14 (4 : Int32) ((p2.toInt64) <<< ((16 : Int32).toInt64 &&& 63)) (fun (M15 : cM) =>
 wp_X4_put_6 M15 L (x14 + (4 : Int32)) (4 : Int32) (p3.toInt64) (fun (M16 : cM) =>
 wp_X4_copy_6_1 M16 L (0 : Int32) (x14 + (8 : Int32)) x3 (fun (M17 : cM) =>
 wp_X4_sum_6 M17 L (r5 + (8 : Int32)) x14 (fun (r18 : Int64) =>
 ∀ x19 : Int64, x19 = ((r18 + (x4.toInt64)) + (58 : Int64)) →
 wp_X4_sum_6 M17 L x14 (x14 + x4) (fun (r20 : Int64) =>
 wp_X6_checksum M17 L (x19 + r20) (fun (r21 : Int32) =>
 wp_X4_put_6 M17 L (x14 + (2 : Int32)) (2 : Int32) (r21.toInt64) (fun (M22 : cM) =>
 Z (10 : Int32) M22)))))))))))))))) ∧
 ((¬ (M 13 3) = (58 : Int32) →
 K55) ∧
 ((M 13 3) = (58 : Int32) →
 ((¬ v1 = 0 →
 K55) ∧
 (v1 = 0 →
 Z (9 : Int32) M)))))))) ∧
 ∃ K28 : Prop, (K28  →
 K29 (0 : Int32)) ∧
 (((M 13 8) ≤ 0 →
 K28) ∧
 (¬ (M 13 8) ≤ 0 →
 wp_X4_at_1 M L (M 13 7) (fun (r26 : Int32) =>
 wp_X6_isEchoSix M L r26 (fun (r27 : Int32) =>
 ((r27 = 0 →
 K28) ∧
 (¬ r27 = 0 →
 K29 (1 : Int32))))))))

def wp_X6_fixTransport_0_13 (M : cM) (L : cL) (p2 : Int32) (p3 : Int64) (p5 : Int32) (p6 : Int64) (Z : cM → Prop) : Prop :=
  (∃ K16 : Int32 → Prop, (∀ (v1 : Int32), K16 v1 →
 (∃ K41 : Int32 → Prop, (∀ (v2 : Int32), K41 v2 →
 ((v2 = 0 →
 Z M) ∧
 (¬ v2 = 0 →
 ((¬ (M 13 6) = 0 →
 Z M) ∧
 ((M 13 6) = 0 →
 (((v1 + (2 : Int32)) ≤ (M 13 9) →
 wp_X4_word_3 M L (p2 + v1) (fun (r6 : Int32) =>
 ((¬ (M 13 3) = (6 : Int32) →
 ((r6 = 0 →
 Z M) ∧
 (¬ r6 = 0 →
 wp_X6_adjusted M L r6 p3 p5 p6 (fun (r9 : Int32) =>
 (∃ K155 : Int64 → Prop, (∀ (v10 : Int64), K155 v10 →
 wp_X4_put_3 M L (p2 + v1) (2 : Int32) v10 (fun (M11 : cM) =>
 Z M11)) ∧
 ((¬ r9 = 0 →
 K155 (r9.toInt64)) ∧
 (r9 = 0 →
 K155 (65535 : Int64)))))))) ∧
 ((M 13 3) = (6 : Int32) →
 wp_X6_adjusted M L r6 p3 p5 p6 (fun (r13 : Int32) =>
 wp_X4_put_3 M L (p2 + v1) (2 : Int32) (r13.toInt64) (fun (M14 : cM) =>
 Z M14)))))) ∧
 (¬ (v1 + (2 : Int32)) ≤ (M 13 9) →
 Z M))))))) ∧
 ∃ K36 : Prop, (K36  →
 K41 (1 : Int32)) ∧
 (((M 13 3) = (17 : Int32) →
 K36) ∧
 (¬ (M 13 3) = (17 : Int32) →
 ((¬ (M 13 3) = (6 : Int32) →
 K41 (0 : Int32)) ∧
 ((M 13 3) = (6 : Int32) →
 K36)))))) ∧
 ((¬ (M 13 3) = (17 : Int32) →
 K16 (16 : Int32)) ∧
 ((M 13 3) = (17 : Int32) →
 K16 (6 : Int32))))

def wp_X6_fixToFour_0_13 (M : cM) (L : cL) (p2 : Int32) (Z : cM → Prop) : Prop :=
  ((¬ (M 13 3) = (58 : Int32) →
 wp_X6_fixTransport_0_13 M L p2 (L 13 13) (16 : Int32) (L 13 12) (fun (M2 : cM) =>
 Z M2)) ∧
 ((M 13 3) = (58 : Int32) →
 wp_X4_word_3 M L p2 (fun (r3 : Int32) =>
 (∃ K34 : Int32 → Prop, (∀ (v4 : Int32), K34 v4 →
 ∀ x5 : Int32, x5 = ((v4 <<< ((8 : Int32) &&& 31)) ||| (r3 &&& (255 : Int32))) →
 wp_X4_put_3 M L p2 (2 : Int32) (x5.toInt64) (fun (M6 : cM) =>
 ∀ x7 : Int64, x7 = ((((r3.toInt64) + (L 13 13)) + ((M6 13 8).toInt64)) + (58 : Int64)) →
 wp_X4_word_3 M6 L (p2 + (2 : Int32)) (fun (r8 : Int32) =>
 wp_X6_adjusted M6 L r8 x7 (21 : Int32) (x5.toInt64) (fun (r9 : Int32) =>
 wp_X4_put_3 M6 L (p2 + (2 : Int32)) (2 : Int32) (r9.toInt64) (fun (M10 : cM) =>
 Z M10))))) ∧
 ((¬ (r3 >>> ((8 : Int32) &&& 31)) = (128 : Int32) →
 K34 (0 : Int32)) ∧
 ((r3 >>> ((8 : Int32) &&& 31)) = (128 : Int32) →
 K34 (8 : Int32)))))))

def wp_X6_bodyFromSix_0_13 (M : cM) (L : cL)  (Z : cM → Prop) : Prop :=
  wp_X4_copy_3_1 M L (M 13 7) (0 : Int32) (M 13 8) (fun (M1 : cM) =>
 ∀ M2 : cM, M2 = mu M1 3 1 (M1 13 8) →
 wp_X6_fixToFour_0_13 M2 L (0 : Int32) (fun (M3 : cM) =>
 Z M3))

def wp_X6_entry_t3 (M : cM) (L : cL) (p1 : Int64) (Z : Int32 → Prop) : Prop :=
  (((lg_cmp p1 (0 : Int64)) < 0 →
 Z (-1 : Int32)) ∧
 (¬ (lg_cmp p1 (0 : Int64)) < 0 →
 ((0 ≤ (lg_cmp p1 ((5 : Int32).toInt64)) →
 Z (-1 : Int32)) ∧
 (¬ 0 ≤ (lg_cmp p1 ((5 : Int32).toInt64)) →
 (vp_in (p1.toInt32) 5 ∧
 Z (cpTab3.getD (p1.toInt32).toNatClampNeg 0))))))

def wp_X6_errorToFour (M : cM) (L : cL) (p0 : Int32) (p1 : Int32) (Z : Int32 → Prop) : Prop :=
  ((p0 = (1 : Int32) →
 wp_X6_entry_t3 M L (p1.toInt64) (fun (r1 : Int32) =>
 Z r1)) ∧
 (¬ p0 = (1 : Int32) →
 ((p0 = (2 : Int32) →
 Z (772 : Int32)) ∧
 (¬ p0 = (2 : Int32) →
 ((p0 = (3 : Int32) →
 Z ((2816 : Int32) ||| p1)) ∧
 (¬ p0 = (3 : Int32) →
 ((¬ p1 = 0 →
 ((¬ p1 = (1 : Int32) →
 Z (-1 : Int32)) ∧
 (p1 = (1 : Int32) →
 Z (770 : Int32)))) ∧
 (p1 = 0 →
 Z (3072 : Int32)))))))))

def wp_X5_forgetHeaders_14 (M : cM) (L : cL)  (Z : cM → Prop) : Prop :=
  ∀ M1 : cM, M1 = mu M 14 14 (0 : Int32) →
 ∀ M2 : cM, M2 = mu M1 14 5 (0 : Int32) →
 ∀ M3 : cM, M3 = mu M2 14 6 (0 : Int32) →
 ∀ M4 : cM, M4 = mu M3 14 4 (0 : Int32) →
 ∀ M5 : cM, M5 = mu M4 14 15 (-1 : Int32) →
 Z M5

def wp_X5_readFragmentHeader_14_1 (M : cM) (L : cL) (p2 : Int32) (Z : cM → Prop) : Prop :=
  ∀ M1 : cM, M1 = mu M 14 14 (1 : Int32) →
 wp_X4_word_1 M1 L (p2 + (2 : Int32)) (fun (r2 : Int32) =>
 ∀ M3 : cM, M3 = mu M1 14 6 (r2 >>> ((3 : Int32) &&& 31)) →
 (∃ K32 : Int32 → Prop, (∀ (v4 : Int32), K32 v4 →
 (isB v4 ∧
 ∀ M5 : cM, M5 = mu M3 14 5 v4 →
 wp_X4_word_1 M5 L (p2 + (6 : Int32)) (fun (r6 : Int32) =>
 ∀ M7 : cM, M7 = mu M5 14 4 r6 →
 Z M7))) ∧
 (((r2 &&& (1 : Int32)) = 0 →
 K32 (0 : Int32)) ∧
 (¬ (r2 &&& (1 : Int32)) = 0 →
 K32 (1 : Int32)))))

def wp_X5_readHeaders_14_1 (M : cM) (L : cL) (p2 : Int32) (Z : Int32 → cM → Prop) : Prop :=
  wp_X4_at_1 M L ((M 14 0) + (6 : Int32)) (fun (r1 : Int32) =>
 ∀ x2 : Int32, x2 = ((M 14 0) + (40 : Int32)) →
 wp_X5_forgetHeaders_14 M L  (fun (M3 : cM) =>
 ∃ (I28 : Int32 → Int32 → Int32 → cM → Prop) (m28 : Int32 → Int32 → Int32 → cM → Nat), I28 r1 x2 (0 : Int32) M3 ∧ ∀ (x4 : Int32) (x5 : Int32) (x6 : Int32) (M7 : cM), I28 x4 x5 x6 M7 →
 (∃ K172 : Prop, (K172  →
 ∀ M8 : cM, M8 = mu M7 14 3 x4 →
 ∀ M9 : cM, M9 = mu M8 14 7 x5 →
 Z (1 : Int32) M9) ∧
 (((300 : Int32) ≤ x6 →
 K172) ∧
 (¬ (300 : Int32) ≤ x6 →
 wp_X5_isHeader M7 L x4 (fun (r11 : Int32) =>
 ((r11 = 0 →
 K172) ∧
 (¬ r11 = 0 →
 ((¬ (M7 14 6) = 0 →
 K172) ∧
 ((M7 14 6) = 0 →
 (∃ K75 : Int32 → Prop, (∀ (v14 : Int32), K75 v14 →
 ((p2 < (x5 + v14) →
 Z (0 : Int32) M7) ∧
 (¬ p2 < (x5 + v14) →
 (∃ K101 : Prop, (K101  →
 (∃ K114 : cM → Prop, (∀ (M16 : cM), K114 M16 →
 (∃ K152 : cM → Prop, (∀ (M17 : cM), K152 M17 →
 wp_X4_at_1 M17 L x5 (fun (r18 : Int32) =>
 ∀ x19 : Int32, x19 = (x5 + v14) →
 ∀ x20 : Int32, x20 = (x6 + (1 : Int32)) →
 (I28 r18 x19 x20 M17 ∧ m28 r18 x19 x20 M17 < m28 x4 x5 x6 M7))) ∧
 ((¬ x4 = (43 : Int32) →
 K152 M16) ∧
 (x4 = (43 : Int32) →
 ((¬ (M16 14 15) = (-1 : Int32) →
 K152 M16) ∧
 ((M16 14 15) = (-1 : Int32) →
 wp_X4_at_1 M16 L (x5 + (3 : Int32)) (fun (r23 : Int32) =>
 ((r23 = 0 →
 K152 M16) ∧
 (¬ r23 = 0 →
 ∀ M25 : cM, M25 = mu M16 14 15 ((x5 + (3 : Int32)) - (M16 14 0)) →
 K152 M25))))))))) ∧
 ((¬ x4 = (44 : Int32) →
 K114 M7) ∧
 (x4 = (44 : Int32) →
 wp_X5_readFragmentHeader_14_1 M7 L x5 (fun (M27 : cM) =>
 K114 M27))))) ∧
 ((¬ x4 = (44 : Int32) →
 K101) ∧
 (x4 = (44 : Int32) →
 (((M7 14 14) = 0 →
 K101) ∧
 (¬ (M7 14 14) = 0 →
 Z (0 : Int32) M7)))))))) ∧
 ((¬ x4 = (44 : Int32) →
 wp_X4_at_1 M7 L (x5 + (1 : Int32)) (fun (r31 : Int32) =>
 K75 ((8 : Int32) + ((8 : Int32) * r31)))) ∧
 (x4 = (44 : Int32) →
 K75 (8 : Int32))))))))))))))

def wp_X5_read_14_1 (M : cM) (L : cL) (p2 : Int32) (p3 : Int32) (Z : Int32 → cM → cL → Prop) : Prop :=
  (((p3 - p2) < (40 : Int32) →
 Z (0 : Int32) M L) ∧
 (¬ (p3 - p2) < (40 : Int32) →
 wp_X4_at_1 M L p2 (fun (r2 : Int32) =>
 (((r2 >>> ((4 : Int32) &&& 31)) = (6 : Int32) →
 ∀ M4 : cM, M4 = mu M 14 0 p2 →
 wp_X4_word_1 M4 L p2 (fun (r5 : Int32) =>
 ∀ M6 : cM, M6 = mu M4 14 1 ((r5 >>> ((4 : Int32) &&& 31)) &&& (255 : Int32)) →
 wp_X4_at_1 M6 L (p2 + (7 : Int32)) (fun (r7 : Int32) =>
 ∀ M8 : cM, M8 = mu M6 14 2 r7 →
 wp_X4_sum_1 M8 L (p2 + (8 : Int32)) (p2 + (40 : Int32)) (fun (r9 : Int64) =>
 ∀ L10 : cL, L10 = ml L 14 13 r9 →
 wp_X4_word_1 M8 L10 (p2 + (4 : Int32)) (fun (r11 : Int32) =>
 ∀ x12 : Int32, x12 = ((p2 + (40 : Int32)) + r11) →
 ∀ x13 : Int32, x13 = (if x12 < p3 then x12 else p3) →
 wp_X5_readHeaders_14_1 M8 L10 x13 (fun (r14 : Int32) (M15 : cM) =>
 ((¬ r14 = 0 →
 ∀ M17 : cM, M17 = mu M15 14 8 (x12 - (M15 14 7)) →
 ∀ M18 : cM, M18 = mu M17 14 9 (x13 - (M17 14 7)) →
 Z (1 : Int32) M18 L10) ∧
 (r14 = 0 →
 Z (0 : Int32) M15 L10)))))))) ∧
 (¬ (r2 >>> ((4 : Int32) &&& 31)) = (6 : Int32) →
 Z (0 : Int32) M L)))))

def wp_X5_setFour_14 (M : cM) (L : cL) (p1 : Int64) (p3 : Int64) (Z : cM → cL → Prop) : Prop :=
  ∀ M1 : cM, M1 = mu M 14 10 (p1.toInt32) →
 ∀ M2 : cM, M2 = mu M1 14 11 (p3.toInt32) →
 wp_X6_wordsOf M2 L ((p1 <<< ((32 : Int32).toInt64 &&& 63)) ||| p3) (fun (r3 : Int64) =>
 ∀ L4 : cL, L4 = ml L 14 12 r3 →
 Z M2 L4)

def wp_X2_fragment_14 (M : cM) (L : cL)  (Z : Int32 → Prop) : Prop :=
  ((¬ (M 14 5) = 0 →
 Z (1 : Int32)) ∧
 ((M 14 5) = 0 →
 (((M 14 6) = 0 →
 Z (0 : Int32)) ∧
 (¬ (M 14 6) = 0 →
 Z (1 : Int32)))))

def wp_X6_innerSixFits_0_14 (M : cM) (L : cL)  (Z : Int32 → cM → cL → Prop) : Prop :=
  wp_X4_number_1 M L ((M 14 0) + (8 : Int32)) (8 : Int32) (fun (r1 : Int64) =>
 wp_X4_number_1 M L ((M 14 0) + (16 : Int32)) (8 : Int32) (fun (r2 : Int64) =>
 wp_X1_fourOf_10 M L r1 r2 (fun (r3 : Int64) =>
 wp_X4_number_1 M L ((M 14 0) + (24 : Int32)) (8 : Int32) (fun (r4 : Int64) =>
 wp_X4_number_1 M L ((M 14 0) + (32 : Int32)) (8 : Int32) (fun (r5 : Int64) =>
 wp_X1_fourOf_10 M L r4 r5 (fun (r6 : Int64) =>
 (((lg_cmp r3 (-1 : Int64)) = 0 →
 Z (0 : Int32) M L) ∧
 (¬ (lg_cmp r3 (-1 : Int64)) = 0 →
 (((lg_cmp r6 (-1 : Int64)) = 0 →
 Z (0 : Int32) M L) ∧
 (¬ (lg_cmp r6 (-1 : Int64)) = 0 →
 wp_X6_neverFromSix M L (M 14 3) (fun (r9 : Int32) =>
 ((r9 = 0 →
 wp_X5_setFour_14 M L r3 r6 (fun (M11 : cM) (L12 : cL) =>
 ((((20 : Int32) + (M11 14 8)) ≤ (65535 : Int32) →
 (((M11 14 3) = (58 : Int32) →
 wp_X2_fragment_14 M11 L12  (fun (r15 : Int32) =>
 ((¬ r15 = 0 →
 Z (0 : Int32) M11 L12) ∧
 (r15 = 0 →
 (((M11 14 9) < (4 : Int32) →
 Z (0 : Int32) M11 L12) ∧
 (¬ (M11 14 9) < (4 : Int32) →
 wp_X4_at_1 M11 L12 (M11 14 7) (fun (r18 : Int32) =>
 wp_X6_isEchoSix M11 L12 r18 (fun (r19 : Int32) =>
 ((r19 = 0 →
 Z (0 : Int32) M11 L12) ∧
 (¬ r19 = 0 →
 Z (1 : Int32) M11 L12)))))))))) ∧
 (¬ (M11 14 3) = (58 : Int32) →
 Z (1 : Int32) M11 L12))) ∧
 (¬ ((20 : Int32) + (M11 14 8)) ≤ (65535 : Int32) →
 Z (0 : Int32) M11 L12)))) ∧
 (¬ r9 = 0 →
 Z (0 : Int32) M L)))))))))))))

def wp_X6_entry_t4 (M : cM) (L : cL) (p1 : Int64) (Z : Int32 → Prop) : Prop :=
  (((lg_cmp p1 (0 : Int64)) < 0 →
 Z (-1 : Int32)) ∧
 (¬ (lg_cmp p1 (0 : Int64)) < 0 →
 ((0 ≤ (lg_cmp p1 ((40 : Int32).toInt64)) →
 Z (-1 : Int32)) ∧
 (¬ 0 ≤ (lg_cmp p1 ((40 : Int32).toInt64)) →
 (vp_in (p1.toInt32) 40 ∧
 Z (cpTab4.getD (p1.toInt32).toNatClampNeg 0))))))

def wp_X6_secondToFour_0 (M : cM) (L : cL) (p1 : Int32) (p2 : Int64) (Z : Int32 → Prop) : Prop :=
  ((¬ p1 = (772 : Int32) →
 ((p1 = (3072 : Int32) →
 wp_X6_entry_t4 M L p2 (fun (r3 : Int32) =>
 ((¬ r3 = (-1 : Int32) →
 Z (r3 <<< ((24 : Int32) &&& 31))) ∧
 (r3 = (-1 : Int32) →
 Z (-1 : Int32))))) ∧
 (¬ p1 = (3072 : Int32) →
 Z (0 : Int32)))) ∧
 (p1 = (772 : Int32) →
 ∀ x5 : Int64, x5 = (if (p2 - (20 : Int64)) < (0 : Int64) then (0 : Int64) else (p2 - (20 : Int64))) →
 Z ((if ((if ((M 0 13) - (20 : Int32)) < (M 0 12) then ((M 0 13) - (20 : Int32)) else (M 0 12)).toInt64) < x5 then ((if ((M 0 13) - (20 : Int32)) < (M 0 12) then ((M 0 13) - (20 : Int32)) else (M 0 12)).toInt64) else x5).toInt32)))

def wp_X5_flags_14 (M : cM) (L : cL) (p1 : Int32) (Z : Int32 → Prop) : Prop :=
  ((¬ (M 14 14) = 0 →
 (((M 14 5) = 0 →
 Z ((M 14 6) ||| (0 : Int32))) ∧
 (¬ (M 14 5) = 0 →
 Z ((M 14 6) ||| (8192 : Int32))))) ∧
 ((M 14 14) = 0 →
 ((p1 ≤ (1260 : Int32) →
 Z (0 : Int32)) ∧
 (¬ p1 ≤ (1260 : Int32) →
 Z (16384 : Int32)))))

def wp_X6_putFourHeader_0_3_14 (M : cM) (L : cL) (p2 : Int32) (p4 : Int32) (p5 : Int32) (p6 : Int32) (p7 : Int32) (Z : cM → Prop) : Prop :=
  wp_X4_put_3 M L p2 (1 : Int32) (69 : Int64) (fun (M1 : cM) =>
 (∃ K30 : Int64 → Prop, (∀ (v2 : Int64), K30 v2 →
 wp_X4_put_3 M1 L (p2 + (1 : Int32)) (1 : Int32) v2 (fun (M3 : cM) =>
 wp_X4_put_3 M3 L (p2 + (2 : Int32)) (2 : Int32) (p4.toInt64) (fun (M4 : cM) =>
 wp_X4_put_3 M4 L (p2 + (4 : Int32)) (2 : Int32) (p6.toInt64) (fun (M5 : cM) =>
 wp_X4_put_3 M5 L (p2 + (6 : Int32)) (2 : Int32) (p5.toInt64) (fun (M6 : cM) =>
 wp_X4_put_3 M6 L (p2 + (8 : Int32)) (1 : Int32) (p7.toInt64) (fun (M7 : cM) =>
 (∃ K103 : Int64 → Prop, (∀ (v8 : Int64), K103 v8 →
 wp_X4_put_3 M7 L (p2 + (9 : Int32)) (1 : Int32) v8 (fun (M9 : cM) =>
 wp_X4_put_3 M9 L (p2 + (10 : Int32)) (2 : Int32) (0 : Int64) (fun (M10 : cM) =>
 wp_X4_put_3 M10 L (p2 + (12 : Int32)) (4 : Int32) ((M10 14 10).toInt64) (fun (M11 : cM) =>
 wp_X4_put_3 M11 L (p2 + (16 : Int32)) (4 : Int32) ((M11 14 11).toInt64) (fun (M12 : cM) =>
 wp_X4_sum_3 M12 L p2 (p2 + (20 : Int32)) (fun (r13 : Int64) =>
 wp_X6_checksum M12 L r13 (fun (r14 : Int32) =>
 wp_X4_put_3 M12 L (p2 + (10 : Int32)) (2 : Int32) (r14.toInt64) (fun (M15 : cM) =>
 Z M15)))))))) ∧
 ((¬ (M7 14 3) = (58 : Int32) →
 K103 ((M7 14 3).toInt64)) ∧
 ((M7 14 3) = (58 : Int32) →
 K103 (1 : Int64)))))))))) ∧
 (((M1 0 14) = 0 →
 K30 (0 : Int64)) ∧
 (¬ (M1 0 14) = 0 →
 K30 ((M1 14 1).toInt64)))))

def wp_X6_putInnerFour_0_14 (M : cM) (L : cL)  (Z : Int32 → cM → Prop) : Prop :=
  ∀ x1 : Int32, x1 = ((20 : Int32) + (M 14 8)) →
 wp_X5_flags_14 M L x1 (fun (r2 : Int32) =>
 wp_X6_putFourHeader_0_3_14 M L (8 : Int32) x1 r2 (M 14 4) (M 14 2) (fun (M3 : cM) =>
 wp_X4_copy_3_1 M3 L (M3 14 7) (28 : Int32) (M3 14 9) (fun (M4 : cM) =>
 Z (28 : Int32) M4)))

def wp_X6_fixTransport_0_14 (M : cM) (L : cL) (p2 : Int32) (p3 : Int64) (p5 : Int32) (p6 : Int64) (Z : cM → Prop) : Prop :=
  (∃ K16 : Int32 → Prop, (∀ (v1 : Int32), K16 v1 →
 (∃ K41 : Int32 → Prop, (∀ (v2 : Int32), K41 v2 →
 ((v2 = 0 →
 Z M) ∧
 (¬ v2 = 0 →
 ((¬ (M 14 6) = 0 →
 Z M) ∧
 ((M 14 6) = 0 →
 (((v1 + (2 : Int32)) ≤ (M 14 9) →
 wp_X4_word_3 M L (p2 + v1) (fun (r6 : Int32) =>
 ((¬ (M 14 3) = (6 : Int32) →
 ((r6 = 0 →
 Z M) ∧
 (¬ r6 = 0 →
 wp_X6_adjusted M L r6 p3 p5 p6 (fun (r9 : Int32) =>
 (∃ K155 : Int64 → Prop, (∀ (v10 : Int64), K155 v10 →
 wp_X4_put_3 M L (p2 + v1) (2 : Int32) v10 (fun (M11 : cM) =>
 Z M11)) ∧
 ((¬ r9 = 0 →
 K155 (r9.toInt64)) ∧
 (r9 = 0 →
 K155 (65535 : Int64)))))))) ∧
 ((M 14 3) = (6 : Int32) →
 wp_X6_adjusted M L r6 p3 p5 p6 (fun (r13 : Int32) =>
 wp_X4_put_3 M L (p2 + v1) (2 : Int32) (r13.toInt64) (fun (M14 : cM) =>
 Z M14)))))) ∧
 (¬ (v1 + (2 : Int32)) ≤ (M 14 9) →
 Z M))))))) ∧
 ∃ K36 : Prop, (K36  →
 K41 (1 : Int32)) ∧
 (((M 14 3) = (17 : Int32) →
 K36) ∧
 (¬ (M 14 3) = (17 : Int32) →
 ((¬ (M 14 3) = (6 : Int32) →
 K41 (0 : Int32)) ∧
 ((M 14 3) = (6 : Int32) →
 K36)))))) ∧
 ((¬ (M 14 3) = (17 : Int32) →
 K16 (16 : Int32)) ∧
 ((M 14 3) = (17 : Int32) →
 K16 (6 : Int32))))

def wp_X6_fixToFour_0_14 (M : cM) (L : cL) (p2 : Int32) (Z : cM → Prop) : Prop :=
  ((¬ (M 14 3) = (58 : Int32) →
 wp_X6_fixTransport_0_14 M L p2 (L 14 13) (16 : Int32) (L 14 12) (fun (M2 : cM) =>
 Z M2)) ∧
 ((M 14 3) = (58 : Int32) →
 wp_X4_word_3 M L p2 (fun (r3 : Int32) =>
 (∃ K34 : Int32 → Prop, (∀ (v4 : Int32), K34 v4 →
 ∀ x5 : Int32, x5 = ((v4 <<< ((8 : Int32) &&& 31)) ||| (r3 &&& (255 : Int32))) →
 wp_X4_put_3 M L p2 (2 : Int32) (x5.toInt64) (fun (M6 : cM) =>
 ∀ x7 : Int64, x7 = ((((r3.toInt64) + (L 14 13)) + ((M6 14 8).toInt64)) + (58 : Int64)) →
 wp_X4_word_3 M6 L (p2 + (2 : Int32)) (fun (r8 : Int32) =>
 wp_X6_adjusted M6 L r8 x7 (21 : Int32) (x5.toInt64) (fun (r9 : Int32) =>
 wp_X4_put_3 M6 L (p2 + (2 : Int32)) (2 : Int32) (r9.toInt64) (fun (M10 : cM) =>
 Z M10))))) ∧
 ((¬ (r3 >>> ((8 : Int32) &&& 31)) = (128 : Int32) →
 K34 (0 : Int32)) ∧
 ((r3 >>> ((8 : Int32) &&& 31)) = (128 : Int32) →
 K34 (8 : Int32)))))))

def wp_X6_errorFromSix_0_13_14 (M : cM) (L : cL)  (Z : Int32 → cM → cL → Prop) : Prop :=
  ∀ x1 : Int32, x1 = ((M 13 7) + (M 13 8)) →
 wp_X4_sum_1 M L (M 13 7) x1 (fun (r2 : Int64) =>
 wp_X6_folded M L ((((L 13 13) + ((M 13 8).toInt64)) + (58 : Int64)) + r2) (fun (r3 : Int32) =>
 ((r3 = (65535 : Int32) →
 wp_X4_at_1 M L (M 13 7) (fun (r5 : Int32) =>
 wp_X4_at_1 M L ((M 13 7) + (1 : Int32)) (fun (r6 : Int32) =>
 wp_X6_errorToFour M L r5 r6 (fun (r7 : Int32) =>
 ((r7 = (-1 : Int32) →
 Z (8 : Int32) M L) ∧
 (¬ r7 = (-1 : Int32) →
 wp_X5_read_14_1 M L ((M 13 7) + (8 : Int32)) x1 (fun (r9 : Int32) (M10 : cM) (L11 : cL) =>
 ((r9 = 0 →
 Z (8 : Int32) M10 L11) ∧
 (¬ r9 = 0 →
 wp_X6_innerSixFits_0_14 M10 L11  (fun (r13 : Int32) (M14 : cM) (L15 : cL) =>
 ((¬ r13 = 0 →
 wp_X4_number_1 M14 L15 ((M14 13 7) + (4 : Int32)) (4 : Int32) (fun (r17 : Int64) =>
 wp_X6_secondToFour_0 M14 L15 r7 r17 (fun (r18 : Int32) =>
 ((¬ r18 = (-1 : Int32) →
 wp_X6_putInnerFour_0_14 M14 L15  (fun (r20 : Int32) (M21 : cM) =>
 wp_X6_fixToFour_0_14 M21 L15 r20 (fun (M22 : cM) =>
 ∀ M23 : cM, M23 = mu M22 3 1 (if (556 : Int32) < (r20 + (M22 14 9)) then (556 : Int32) else (r20 + (M22 14 9))) →
 wp_X6_putMessage_0 M23 L15 r7 r18 (0 : Int64) (fun (M24 : cM) =>
 Z (0 : Int32) M24 L15)))) ∧
 (r18 = (-1 : Int32) →
 Z (8 : Int32) M14 L15))))) ∧
 (r13 = 0 →
 Z (8 : Int32) M14 L15)))))))))))) ∧
 (¬ r3 = (65535 : Int32) →
 Z (4 : Int32) M L))))

def wp_X6_verdictOnSix_0_13 (M : cM) (L : cL)  (Z : Int32 → cM → cL → Prop) : Prop :=
  wp_X5_readWhole_13_1 M L  (fun (r1 : Int32) (M2 : cM) (L3 : cL) =>
 ((¬ r1 = 0 →
 wp_X4_number_1 M2 L3 (8 : Int32) (8 : Int32) (fun (r5 : Int64) =>
 wp_X4_number_1 M2 L3 (16 : Int32) (8 : Int32) (fun (r6 : Int64) =>
 wp_X1_fourOf_10 M2 L3 r5 r6 (fun (r7 : Int64) =>
 ((¬ (lg_cmp r7 (-1 : Int64)) = 0 →
 wp_X4_number_1 M2 L3 (24 : Int32) (8 : Int32) (fun (r9 : Int64) =>
 wp_X4_number_1 M2 L3 (32 : Int32) (8 : Int32) (fun (r10 : Int64) =>
 wp_X1_fourOf_10 M2 L3 r9 r10 (fun (r11 : Int64) =>
 ((¬ (lg_cmp r11 (-1 : Int64)) = 0 →
 wp_X5_setFour_13 M2 L3 r7 r11 (fun (M13 : cM) (L14 : cL) =>
 (((M13 13 15) = (-1 : Int32) →
 (((1 : Int32) < (M13 13 2) →
 wp_X6_faultOfSix_0_13 M13 L14  (fun (r17 : Int32) =>
 ((r17 = 0 →
 (∃ K201 : Int32 → cM → cL → Prop, (∀ (x19 : Int32) (M20 : cM) (L21 : cL), K201 x19 M20 L21 →
 ((x19 = 0 →
 ∀ x23 : Int32, x23 = ((20 : Int32) + (M20 3 1)) →
 ((x23 ≤ (65535 : Int32) →
 (∃ K271 : Prop, (K271  →
 wp_X6_sendFour_0_13 M20 L21  (fun (M25 : cM) =>
 Z (0 : Int32) M25 L21)) ∧
 ((¬ (M20 13 14) = 0 →
 K271) ∧
 ((M20 13 14) = 0 →
 ((x23 ≤ (1260 : Int32) →
 K271) ∧
 (¬ x23 ≤ (1260 : Int32) →
 ((x23 ≤ (M20 0 12) →
 K271) ∧
 (¬ x23 ≤ (M20 0 12) →
 wp_X6_answerSix_0_13 M20 L21 (512 : Int32) ((M20 0 12) + (20 : Int32)) (fun (r29 : Int32) (M30 : cM) =>
 Z r29 M30 L21))))))))) ∧
 (¬ x23 ≤ (65535 : Int32) →
 Z (4 : Int32) M20 L21))) ∧
 (¬ x19 = 0 →
 Z x19 M20 L21))) ∧
 ∃ K196 : Prop, (K196  →
 wp_X6_bodyFromSix_0_13 M13 L14  (fun (M31 : cM) =>
 K201 r17 M31 L14)) ∧
 ((¬ (M13 13 3) = (58 : Int32) →
 K196) ∧
 ((M13 13 3) = (58 : Int32) →
 wp_X4_at_1 M13 L14 (M13 13 7) (fun (r33 : Int32) =>
 wp_X6_isErrorSix M13 L14 r33 (fun (r34 : Int32) =>
 ((r34 = 0 →
 K196) ∧
 (¬ r34 = 0 →
 wp_X6_errorFromSix_0_13_14 M13 L14  (fun (r36 : Int32) (M37 : cM) (L38 : cL) =>
 K201 r36 M37 L38))))))))) ∧
 (¬ r17 = 0 →
 Z r17 M13 L14)))) ∧
 (¬ (1 : Int32) < (M13 13 2) →
 wp_X6_answerSix_0_13 M13 L14 (768 : Int32) (0 : Int32) (fun (r39 : Int32) (M40 : cM) =>
 Z r39 M40 L14)))) ∧
 (¬ (M13 13 15) = (-1 : Int32) →
 wp_X6_answerSix_0_13 M13 L14 (1024 : Int32) (M13 13 15) (fun (r41 : Int32) (M42 : cM) =>
 Z r41 M42 L14))))) ∧
 ((lg_cmp r11 (-1 : Int64)) = 0 →
 Z (3 : Int32) M2 L3)))))) ∧
 ((lg_cmp r7 (-1 : Int64)) = 0 →
 Z (2 : Int32) M2 L3)))))) ∧
 (r1 = 0 →
 Z (1 : Int32) M2 L3)))

def wp_X6_six_0 (M : cM) (L : cL)  (Z : Int32 → cM → cL → Prop) : Prop :=
  wp_X3_clear_5 M L  (fun (M1 : cM) =>
 wp_X6_verdictOnSix_0_13 M1 L  (fun (r2 : Int32) (M3 : cM) (L4 : cL) =>
 wp_X6_finish_0 M3 L4 r2 (fun (M5 : cM) =>
 Z r2 M5 L4)))

def wp_X6_parts_0 (M : cM) (L : cL)  (Z : Int32 → Prop) : Prop :=
  Z (M 5 3)

def wp_X3_sizeOf_5 (M : cM) (L : cL) (p1 : Int32) (Z : Int32 → Prop) : Prop :=
  ((p1 < 0 →
 Z (-1 : Int32)) ∧
 (¬ p1 < 0 →
 (((M 5 3) ≤ p1 →
 Z (-1 : Int32)) ∧
 (¬ (M 5 3) ≤ p1 →
 (((49 : Int32) ≤ p1 →
 Z (-1 : Int32)) ∧
 (¬ (49 : Int32) ≤ p1 →
 (vp_in p1 49 ∧
 Z (M 9 p1.toNatClampNeg))))))))

def wp_X6_size_0 (M : cM) (L : cL) (p1 : Int32) (Z : Int32 → Prop) : Prop :=
  wp_X3_sizeOf_5 M L p1 (fun (r1 : Int32) =>
 Z r1)

def wp_X6_image_0 (M : cM) (L : cL) (p1 : Int32) (p2 : Int32) (Z : Int64 → Prop) : Prop :=
  wp_X1_mappable_10 M L p1 (fun (r1 : Int32) =>
 ((¬ r1 = 0 →
 ((p2 = 0 →
 wp_X1_upperOf_10 M L p1 (fun (r4 : Int64) =>
 Z r4)) ∧
 (¬ p2 = 0 →
 wp_X1_lowerOf_10 M L p1 (fun (r5 : Int64) =>
 Z r5)))) ∧
 (r1 = 0 →
 Z (0 : Int64))))

def wp_X6_address_0 (M : cM) (L : cL) (p1 : Int64) (p3 : Int64) (Z : Int64 → Prop) : Prop :=
  wp_X1_fourOf_10 M L p1 p3 (fun (r1 : Int64) =>
 Z r1)

def wp_X6_count_0 (M : cM) (L : cL) (p1 : Int32) (Z : Int32 → Prop) : Prop :=
  (∃ K20 : Prop, (K20  →
 ((p1 = (11 : Int32) →
 Z (M 1 1)) ∧
 (¬ p1 = (11 : Int32) →
 ((p1 = (12 : Int32) →
 Z (M 0 16)) ∧
 (¬ p1 = (12 : Int32) →
 ((p1 = (13 : Int32) →
 Z (M 0 12)) ∧
 (¬ p1 = (13 : Int32) →
 ((p1 = (14 : Int32) →
 Z (M 0 13)) ∧
 (¬ p1 = (14 : Int32) →
 ((p1 = (15 : Int32) →
 Z (M 10 2)) ∧
 (¬ p1 = (15 : Int32) →
 Z (-1 : Int32)))))))))))) ∧
 ((p1 < 0 →
 K20) ∧
 (¬ p1 < 0 →
 (((11 : Int32) ≤ p1 →
 K20) ∧
 (¬ (11 : Int32) ≤ p1 →
 (vp_in p1 11 ∧
 Z (M 15 p1.toNatClampNeg)))))))
