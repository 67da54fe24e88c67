def wp_X4_put_1 (M : cM) (L : cL) (p1 : Int32) (p2 : Int32) (p3 : Int64) (Z : cM → Prop) : Prop :=
  ∃ (I3 : Int32 → cM → Prop) (m3 : Int32 → cM → Nat), I3 (0 : Int32) M ∧ ∀ (x1 : Int32) (M2 : cM), I3 x1 M2 →
 ((p2 ≤ x1 →
 Z M2) ∧
 (¬ p2 ≤ x1 →
 ∀ x4 : Int32, x4 = (p1 + x1) →
 (∃ K50 : cM → Prop, (∀ (M5 : cM), K50 M5 →
 ∀ x6 : Int32, x6 = (x1 + (1 : Int32)) →
 (I3 x6 M5 ∧ m3 x6 M5 < m3 x1 M2)) ∧
 ((x4 < 0 →
 K50 M2) ∧
 (¬ x4 < 0 →
 (((2400 : Int32) ≤ x4 →
 K50 M2) ∧
 (¬ (2400 : Int32) ≤ x4 →
 (vp_in x4 2400 ∧
 ∀ M9 : cM, M9 = mu M2 2 x4.toNatClampNeg (vp_nar .byte ((((p3.toUInt64 >>> (((8 : Int32) * ((p2 - (1 : Int32)) - x1)).toInt64.toUInt64 &&& Int64.toUInt64 63)).toInt64).toInt32).toInt8.toInt32)) →
 K50 M9))))))))

def wp_X6_feed_0 (M : cM) (L : cL) (p1 : Int32) (p2 : Int32) (p3 : Int32) (p4 : Int32) (p5 : Int32) (Z : Int32 → cM → Prop) (X : Prop) : Prop :=
  ∀ x1 : Int32, x1 = (M 1 1) →
 (((x1 + (20 : Int32)) ≤ (2400 : Int32) →
 wp_X4_put_1 M L x1 (4 : Int32) (p1.toInt64) (fun (M3 : cM) =>
 wp_X4_put_1 M3 L (x1 + (4 : Int32)) (4 : Int32) (p2.toInt64) (fun (M4 : cM) =>
 wp_X4_put_1 M4 L (x1 + (8 : Int32)) (4 : Int32) (p3.toInt64) (fun (M5 : cM) =>
 wp_X4_put_1 M5 L (x1 + (12 : Int32)) (4 : Int32) (p4.toInt64) (fun (M6 : cM) =>
 wp_X4_put_1 M6 L (x1 + (16 : Int32)) (4 : Int32) (p5.toInt64) (fun (M7 : cM) =>
 ∀ M8 : cM, M8 = mu M7 1 1 (x1 + (20 : Int32)) →
 Z (M8 1 1) M8)))))) ∧
 (¬ (x1 + (20 : Int32)) ≤ (2400 : Int32) →
 X))

def wp_X6_end_0 (M : cM) (L : cL) (p1 : Int32) (Z : Int32 → cM → Prop) (X : Prop) : Prop :=
  (∃ K15 : Prop, (K15  →
 X) ∧
 ((p1 < 0 →
 K15) ∧
 (¬ p1 < 0 →
 ((p1 ≤ (M 1 1) →
 ∀ M3 : cM, M3 = mu M 1 1 p1 →
 Z p1 M3) ∧
 (¬ p1 ≤ (M 1 1) →
 K15)))))

def wp_X1_canBePrefix (M : cM) (L : cL) (p0 : Int64) (p2 : Int64) (p4 : Int32) (Z : Int32 → Prop) : Prop :=
  ((p4 = (32 : Int32) →
 ((¬ (lg_cmp p2 (0 : Int64)) = 0 →
 Z (0 : Int32)) ∧
 ((lg_cmp p2 (0 : Int64)) = 0 →
 ((¬ (lg_cmp (p0 <<< (p4.toInt64 &&& 63)) (0 : Int64)) = 0 →
 Z (0 : Int32)) ∧
 ((lg_cmp (p0 <<< (p4.toInt64 &&& 63)) (0 : Int64)) = 0 →
 Z (1 : Int32)))))) ∧
 (¬ p4 = (32 : Int32) →
 ((p4 = (40 : Int32) →
 ((¬ (lg_cmp p2 (0 : Int64)) = 0 →
 Z (0 : Int32)) ∧
 ((lg_cmp p2 (0 : Int64)) = 0 →
 ((¬ (lg_cmp (p0 <<< (p4.toInt64 &&& 63)) (0 : Int64)) = 0 →
 Z (0 : Int32)) ∧
 ((lg_cmp (p0 <<< (p4.toInt64 &&& 63)) (0 : Int64)) = 0 →
 Z (1 : Int32)))))) ∧
 (¬ p4 = (40 : Int32) →
 ((p4 = (48 : Int32) →
 ((¬ (lg_cmp p2 (0 : Int64)) = 0 →
 Z (0 : Int32)) ∧
 ((lg_cmp p2 (0 : Int64)) = 0 →
 ((¬ (lg_cmp (p0 <<< (p4.toInt64 &&& 63)) (0 : Int64)) = 0 →
 Z (0 : Int32)) ∧
 ((lg_cmp (p0 <<< (p4.toInt64 &&& 63)) (0 : Int64)) = 0 →
 Z (1 : Int32)))))) ∧
 (¬ p4 = (48 : Int32) →
 ((p4 = (56 : Int32) →
 ((¬ (lg_cmp p2 (0 : Int64)) = 0 →
 Z (0 : Int32)) ∧
 ((lg_cmp p2 (0 : Int64)) = 0 →
 ((¬ (lg_cmp (p0 <<< (p4.toInt64 &&& 63)) (0 : Int64)) = 0 →
 Z (0 : Int32)) ∧
 ((lg_cmp (p0 <<< (p4.toInt64 &&& 63)) (0 : Int64)) = 0 →
 Z (1 : Int32)))))) ∧
 (¬ p4 = (56 : Int32) →
 ((p4 = (64 : Int32) →
 ((¬ (lg_cmp p2 (0 : Int64)) = 0 →
 Z (0 : Int32)) ∧
 ((lg_cmp p2 (0 : Int64)) = 0 →
 Z (1 : Int32)))) ∧
 (¬ p4 = (64 : Int32) →
 ((p4 = (96 : Int32) →
 ((¬ (lg_cmp ((p2.toUInt64 >>> ((56 : Int32).toInt64.toUInt64 &&& Int64.toUInt64 63)).toInt64) (0 : Int64)) = 0 →
 Z (0 : Int32)) ∧
 ((lg_cmp ((p2.toUInt64 >>> ((56 : Int32).toInt64.toUInt64 &&& Int64.toUInt64 63)).toInt64) (0 : Int64)) = 0 →
 ((¬ (lg_cmp (p2 &&& (4294967295 : Int64)) (0 : Int64)) = 0 →
 Z (0 : Int32)) ∧
 ((lg_cmp (p2 &&& (4294967295 : Int64)) (0 : Int64)) = 0 →
 Z (1 : Int32)))))) ∧
 (¬ p4 = (96 : Int32) →
 Z (0 : Int32)))))))))))))

def wp_X6_prefix_0 (M : cM) (L : cL) (p1 : Int64) (p3 : Int64) (p5 : Int32) (Z : cM → cL → Prop) (X : Prop) : Prop :=
  wp_X1_canBePrefix M L p1 p3 p5 (fun (r1 : Int32) =>
 ((¬ r1 = 0 →
 ∀ L3 : cL, L3 = ml L 10 0 p1 →
 ∀ L4 : cL, L4 = ml L3 10 1 p3 →
 ∀ M5 : cM, M5 = mu M 10 2 p5 →
 Z M5 L4) ∧
 (r1 = 0 →
 X)))

def wp_X6_limits_0 (M : cM) (L : cL) (p1 : Int32) (p2 : Int32) (Z : cM → Prop) (X : Prop) : Prop :=
  (∃ K27 : Prop, (K27  →
 X) ∧
 ((p1 < (68 : Int32) →
 K27) ∧
 (¬ p1 < (68 : Int32) →
 (((2000 : Int32) < p1 →
 K27) ∧
 (¬ (2000 : Int32) < p1 →
 ((p2 < (1280 : Int32) →
 K27) ∧
 (¬ p2 < (1280 : Int32) →
 ((p2 ≤ (2000 : Int32) →
 ∀ M5 : cM, M5 = mu M 0 12 p1 →
 ∀ M6 : cM, M6 = mu M5 0 13 p2 →
 Z M6) ∧
 (¬ p2 ≤ (2000 : Int32) →
 K27)))))))))

def wp_X3_startOf_5 (M : cM) (L : cL) (p1 : Int32) (Z : Int32 → Prop) : Prop :=
  ((p1 < 0 →
 Z (-1 : Int32)) ∧
 (¬ p1 < 0 →
 (((M 5 3) ≤ p1 →
 Z (-1 : Int32)) ∧
 (¬ (M 5 3) ≤ p1 →
 (((49 : Int32) ≤ p1 →
 Z (-1 : Int32)) ∧
 (¬ (49 : Int32) ≤ p1 →
 (vp_in p1 49 ∧
 Z (M 8 p1.toNatClampNeg))))))))

def wp_X6_octet_0 (M : cM) (L : cL) (p1 : Int32) (p2 : Int32) (Z : Int32 → Prop) (X : Prop) : Prop :=
  (∃ K16 : Prop, (K16  →
 X) ∧
 ((p2 < 0 →
 K16) ∧
 (¬ p2 < 0 →
 wp_X3_sizeOf_5 M L p1 (fun (r2 : Int32) =>
 ((p2 < r2 →
 wp_X3_startOf_5 M L p1 (fun (r4 : Int32) =>
 wp_X4_at_6 M L (r4 + p2) (fun (r5 : Int32) =>
 Z r5))) ∧
 (¬ p2 < r2 →
 K16))))))

def wp_X6_check_0 (M : cM) (L : cL) (p1 : Int32) (p2 : Int32) (p3 : Int32) (Z : Int32 → Prop) (X : Prop) : Prop :=
  wp_X3_sizeOf_5 M L p1 (fun (r1 : Int32) =>
 (∃ K31 : Prop, (K31  →
 X) ∧
 ((r1 = (-1 : Int32) →
 K31) ∧
 (¬ r1 = (-1 : Int32) →
 ((p2 < 0 →
 K31) ∧
 (¬ p2 < 0 →
 ((p3 < p2 →
 K31) ∧
 (¬ p3 < p2 →
 ((p3 ≤ r1 →
 wp_X3_startOf_5 M L p1 (fun (r6 : Int32) =>
 wp_X4_sum_6 M L (r6 + p2) (r6 + p3) (fun (r7 : Int64) =>
 wp_X6_checksum M L r7 (fun (r8 : Int32) =>
 Z r8)))) ∧
 (¬ p3 ≤ r1 →
 K31))))))))))
