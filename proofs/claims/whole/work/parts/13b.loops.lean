/-! the loops of the reference that send -/
def wp_loop6 (M26 : cM) (L27 : cL) (r17 v28 v32 v33 : Int32) (Z : Int32 → cM → cL → Prop) : Prop :=
  ∃ (I561 : Int32 → cM → Prop) (m561 : Int32 → cM → Nat), I561 (0 : Int32) M26 ∧ ∀ (x34 : Int32) (M35 : cM), I561 x34 M35 →
 (∃ K585 : Int32 → Prop, (∀ (v36 : Int32), K585 v36 →
 (∃ K606 : Int32 → Prop, (∀ (v37 : Int32), K606 v37 →
 wp_X7_more_0 M35 L27 (((40 : Int32) + v37) + v36) (fun (r38 : Int32) (M39 : cM) =>
 wp_X7_octetAt_1 M39 L27 (1 : Int32) (fun (r40 : Int32) =>
 (∃ K654 : Int32 → Prop, (∀ (v41 : Int32), K654 v41 →
 (∃ K685 : Int32 → Prop, (∀ (v42 : Int32), K685 v42 →
 wp_X7_twoAt_1 M39 L27 (4 : Int32) (fun (r43 : Int32) =>
 wp_X7_head6_0 M39 L27 r38 r40 (((M39 0 20) - r38) - (40 : Int32)) (r17 - (1 : Int32)) v41 ((M39 0 33) + x34) v42 r43 (fun (M44 : cM) =>
 ∃ (I699 : Int32 → cM → Prop) (m699 : Int32 → cM → Nat), I699 (0 : Int32) M44 ∧ ∀ (x45 : Int32) (M46 : cM), I699 x45 M46 →
 ((v36 ≤ x45 →
 wp_X7_isPart_0 M46 L27  (fun (M48 : cM) =>
 ∀ x49 : Int32, x49 = (x34 + v36) →
 ((x49 < (M48 0 24) →
 (I561 x49 M48 ∧ m561 x49 M48 < m561 x34 M35)) ∧
 (¬ x49 < (M48 0 24) →
 wp_X7_tell_0 M48 L27 (0 : Int32) (fun (r51 : Int32) (M52 : cM) =>
 Z r51 M52 L27))))) ∧
 (¬ v36 ≤ x45 →
 (vp_in (x34 + x45) 5000 ∧
 (vp_in (((M46 0 20) - v36) + x45) 16000 ∧
 ∀ M53 : cM, M53 = mu M46 3 (((M46 0 20) - v36) + x45).toNatClampNeg (vp_nar .byte (M46 5 (x34 + x45).toNatClampNeg)) →
 ∀ x54 : Int32, x54 = (x45 + (1 : Int32)) →
 (I699 x54 M53 ∧ m699 x54 M53 < m699 x45 M46)))))))) ∧
 ∃ K680 : Prop, (K680  →
 K685 (1 : Int32)) ∧
 (((x34 + v36) < (M39 0 24) →
 K680) ∧
 (¬ (x34 + v36) < (M39 0 24) →
 (((M39 0 34) = 0 →
 K685 (0 : Int32)) ∧
 (¬ (M39 0 34) = 0 →
 K680)))))) ∧
 ∃ K649 : Prop, (K649  →
 K654 (1 : Int32)) ∧
 ((¬ v28 = 0 →
 K649) ∧
 (v28 = 0 →
 ((v32 = 0 →
 K654 (0 : Int32)) ∧
 (¬ v32 = 0 →
 K649)))))))) ∧
 ∃ K600 : Prop, (K600  →
 K606 (8 : Int32)) ∧
 ((¬ v28 = 0 →
 K600) ∧
 (v28 = 0 →
 ((v32 = 0 →
 K606 (0 : Int32)) ∧
 (¬ v32 = 0 →
 K600)))))) ∧
 ((v33 ≤ ((M35 0 24) - x34) →
 K585 v33) ∧
 (¬ v33 ≤ ((M35 0 24) - x34) →
 K585 ((M35 0 24) - x34))))
def wp_loop4 (M31 : cM) (L26 : cL) (r16 x30 v29 v32 : Int32) (Z : Int32 → cM → cL → Prop) : Prop :=
  ∃ (I500 : Int32 → cM → cL → Prop) (m500 : Int32 → cM → cL → Nat), I500 (0 : Int32) M31 L26 ∧ ∀ (x33 : Int32) (M34 : cM) (L35 : cL), I500 x33 M34 L35 →
 (∃ K530 : Int32 → Prop, (∀ (v36 : Int32), K530 v36 →
 wp_X7_more_0 M34 L35 ((20 : Int32) + v36) (fun (r37 : Int32) (M38 : cM) =>
 wp_X7_class6_0 M38 L35 (0 : Int32) (fun (r39 : Int32) =>
 (∃ K591 : Int32 → Prop, (∀ (v40 : Int32), K591 v40 →
 wp_X7_head4_0 M38 L35 r37 r39 ((20 : Int32) + v36) x30 v29 ((M38 0 33) + x33) v40 (r16 - (1 : Int32)) (fun (M41 : cM) (L42 : cL) =>
 ∃ (I600 : Int32 → cM → Prop) (m600 : Int32 → cM → Nat), I600 (0 : Int32) M41 ∧ ∀ (x43 : Int32) (M44 : cM), I600 x43 M44 →
 ((v36 ≤ x43 →
 wp_X7_isPart_0 M44 L42  (fun (M46 : cM) =>
 ∀ x47 : Int32, x47 = (x33 + v36) →
 ((x47 < (M46 0 24) →
 (I500 x47 M46 L42 ∧ m500 x47 M46 L42 < m500 x33 M34 L35)) ∧
 (¬ x47 < (M46 0 24) →
 wp_X7_tell_0 M46 L42 (0 : Int32) (fun (r49 : Int32) (M50 : cM) =>
 Z r49 M50 L42))))) ∧
 (¬ v36 ≤ x43 →
 (vp_in (x33 + x43) 5000 ∧
 (vp_in (((M44 0 20) - v36) + x43) 16000 ∧
 ∀ M51 : cM, M51 = mu M44 3 (((M44 0 20) - v36) + x43).toNatClampNeg (vp_nar .byte (M44 5 (x33 + x43).toNatClampNeg)) →
 ∀ x52 : Int32, x52 = (x43 + (1 : Int32)) →
 (I600 x52 M51 ∧ m600 x52 M51 < m600 x43 M44))))))) ∧
 ∃ K586 : Prop, (K586  →
 K591 (1 : Int32)) ∧
 (((x33 + v36) < (M38 0 24) →
 K586) ∧
 (¬ (x33 + v36) < (M38 0 24) →
 (((M38 0 34) = 0 →
 K591 (0 : Int32)) ∧
 (¬ (M38 0 34) = 0 →
 K586)))))))) ∧
 ((v32 < ((M34 0 24) - x33) →
 K530 ((v32 / (8 : Int32)) * (8 : Int32))) ∧
 (¬ v32 < ((M34 0 24) - x33) →
 K530 ((M34 0 24) - x33))))
