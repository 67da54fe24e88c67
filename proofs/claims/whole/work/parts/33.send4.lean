/-! what is sent as IPv4 -/
def sz4 (m4 n d : Nat) : Nat := if n - d ≤ m4 - 20 then n - d else (m4 - 20) / 8 * 8
theorem sz4_le {m4 n d : Nat} : sz4 m4 n d ≤ n - d := by unfold sz4; split <;> omega
noncomputable def pc4 (kp wh mo : Prop) (tos id off hp x s t m4 : Nat) (b : List Nat) (d : Nat) : List Nat := hd4 (cI kp tos 0) (20 + sz4 m4 b.length d) id (cI wh 16384 0 + cI (d + sz4 m4 b.length d < b.length ∨ mo) 8192 0 + (off * 8 + d) / 8) hp (nx6 x) s t ++ (b.drop d).take (sz4 m4 b.length d)
theorem pc4_len (kp wh mo : Prop) (tos id off hp x s t m4 : Nat) (b : List Nat) (d : Nat) : (pc4 kp wh mo tos id off hp x s t m4 b d).length = 20 + sz4 m4 b.length d := by
  unfold pc4
  rw [List.length_append, hd4_len, List.length_take, List.length_drop, Nat.min_eq_left sz4_le]
def wh6 (fa n : Nat) : Prop := fa = NO ∧ 1260 < 20 + n
noncomputable def id6 (g : Nat → Nat) (fa n ct : Nat) : Nat := cI (fa ≠ NO) (ids g fa) (cI (1260 < 20 + n) 0 ((ct + 1) % 65536))
noncomputable def ct6 (fa n ct : Nat) : Nat := cI (fa ≠ NO) ct (cI (1260 < 20 + n) ct ((ct + 1) % 65536))
noncomputable def sd4 (g : Nat → Nat) (kp : Prop) (x fa s t m4 ct : Nat) (b : List Nat) : List (List Nat) := pcs (sz4 m4 b.length) (pc4 kp (wh6 fa b.length) (mfs g fa) (tc6 g 0) (id6 g fa b.length ct) (ofs g fa) (g 7 - 1) x s t m4 b) b.length (b.length + 1) 0
theorem nI_or13 {a : Nat} (h : a < 8192) : nI a ||| (8192 : Int32) = nI (8192 + a) := by
  rw [Int32.or_comm]
  exact nI_orN (a := 1) (k := 13) h
theorem c_flags_13 {M : cM} {L : cL} {x : Int32} {Z : Int32 → Prop} {g : Nat → Nat} (a fa sg tot : Nat) (hgb : ∀ i, g i < 256) (hr : hRow (M 13) g a fa sg) (ht : tot < 100000) (h : Z (nI (cI (fa ≠ NO) (cI (mfs g fa) 8192 0 + ofs g fa) (cI (1260 < tot) 16384 0)))) (hx : x = nI tot) : wp_X5_flags_13 M L x Z := by
  subst hx
  have ho := ofs_lt hgb fa
  unfold wp_X5_flags_13
  rw [hr.2.2.2.1, hr.2.1, hr.2.2.1]
  refine zb (fun c => ?_) (fun c => ?_)
  · rw [cI_f c] at h
    refine ql tot _ (fun c2 => by rw [cI_f (by omega)] at h; exact h) (fun c2 => by rw [cI_t c2] at h; exact h) rfl (by omega) (by omega)
  · rw [cI_t c] at h
    refine bz (fun c2 => ?_) (fun c2 => ?_)
    · rw [cI_f c2, Nat.zero_add] at h
      rw [show nI (ofs g fa) ||| (0 : Int32) = nI (ofs g fa) from by rw [Int32.or_zero]]
      exact h
    · rw [cI_t c2] at h
      rw [nI_or13 ho]
      exact h
theorem c_flags_14 {M : cM} {L : cL} {x : Int32} {Z : Int32 → Prop} {g : Nat → Nat} (a fa sg tot : Nat) (hgb : ∀ i, g i < 256) (hr : hRow (M 14) g a fa sg) (ht : tot < 100000) (h : Z (nI (cI (fa ≠ NO) (cI (mfs g fa) 8192 0 + ofs g fa) (cI (1260 < tot) 16384 0)))) (hx : x = nI tot) : wp_X5_flags_14 M L x Z := by
  subst hx
  have ho := ofs_lt hgb fa
  unfold wp_X5_flags_14
  rw [hr.2.2.2.1, hr.2.1, hr.2.2.1]
  refine zb (fun c => ?_) (fun c => ?_)
  · rw [cI_f c] at h
    refine ql tot _ (fun c2 => by rw [cI_f (by omega)] at h; exact h) (fun c2 => by rw [cI_t c2] at h; exact h) rfl (by omega) (by omega)
  · rw [cI_t c] at h
    refine bz (fun c2 => ?_) (fun c2 => ?_)
    · rw [cI_f c2, Nat.zero_add] at h
      rw [show nI (ofs g fa) ||| (0 : Int32) = nI (ofs g fa) from by rw [Int32.or_zero]]
      exact h
    · rw [cI_t c2] at h
      rw [nI_or13 ho]
      exact h
theorem NO_row (g : Nat → Nat) : ofs g NO = 0 ∧ ¬ mfs g NO ∧ ids g NO = 0 := ⟨if_pos rfl, fun z => z.1 rfl, if_pos rfl⟩
theorem c_sendFour {M : cM} {L : cL} {Z : cM → Prop} {g : Nat → Nat} (n x i fa sg s t m4 ct : Nat) (b : List Nat) (kp : Prop) (hgb : ∀ i, g i < 256) (hp : p6 (M 13) (L 13) g 0 n x i fa sg) (lx : x < 256) (h10 : M 13 10 = nI s) (h11 : M 13 11 = nI t) (hk : M 0 14 = bI kp) (ho : outC M []) (hb : holds (M 4) 0 b) (hb1 : M 3 1 = nI b.length) (hbl : b.length ≤ 2352) (hh : 1 < g 7) (hm4 : M 0 12 = nI m4) (l4 : 68 ≤ m4) (l4' : m4 ≤ 2000) (hct : M 0 16 = nI ct) (lct : ct < 65536) (hw : wh6 fa b.length → 20 + b.length ≤ m4) (hof : ofs g fa * 8 + b.length ≤ 65535)
    (h : ∀ M', fr M M' [0, 5, 6, 7, 8, 9] → (∀ j, j ≠ 16 → M' 0 j = M 0 j) → M' 0 16 = nI (ct6 fa b.length ct) → outC M' (sd4 g kp x fa s t m4 ct b) → Z M') : wp_X6_sendFour_0_13 M L Z := by
  have h1 : M 13 1 = nI (tc6 g 0) := hp.2.1
  have h2 : M 13 2 = nI (g 7) := hp.2.2.1
  have h3 : M 13 3 = nI x := hp.2.2.2.1
  have hr := hp.2.2.2.2.1
  have ho4 := ofs_lt hgb fa
  have hb7 := hgb 7
  have ltc : tc6 g 0 < 256 := Nat.mod_lt _ (by decide)
  unfold wp_X6_sendFour_0_13
  rw [hb1, show (20 : Int32) + nI b.length = nI (20 + b.length) from nI_add 20 _]
  refine c_flags_13 0 fa sg (20 + b.length) hgb hr (by omega) ?_ rfl
  -- the loop, from any state that keeps what it reads
  have main : ∀ M3, fr M M3 [0] → (∀ j, j ≠ 16 → M3 0 j = M 0 j) → M3 0 16 = nI (ct6 fa b.length ct) → ∀ x4 : Int32, x4 = (M3 0 12) - (20 : Int32) →
      ∃ (I37 : Int32 → Int32 → cM → Prop) (m37 : Int32 → Int32 → cM → Nat), I37 (0 : Int32) (0 : Int32) M3 ∧ ∀ (x5 : Int32) (x6 : Int32) (M7 : cM), I37 x5 x6 M7 →
 (((49 : Int32) ≤ x6 →
 Z M7) ∧
 (¬ (49 : Int32) ≤ x6 →
 (((M7 3 1) < x5 →
 Z M7) ∧
 (¬ (M7 3 1) < x5 →
 ∀ x10 : Int32, x10 = ((M7 3 1) - x5) →
 (∃ K88 : Int32 → Prop, (∀ (v11 : Int32), K88 v11 →
 wp_X3_open_5 M7 L ((20 : Int32) + v11) (fun (r12 : Int32) (M13 : cM) =>
 (∃ K118 : Int32 → Prop, (∀ (v14 : Int32), K118 v14 →
 wp_X6_putFourHeader_0_6_13 M13 L r12 ((20 : Int32) + v11) ((nI (cI (fa ≠ NO) (cI (mfs g fa) 8192 0 + ofs g fa) (cI (1260 < 20 + b.length) 16384 0)) ||| v14) + (x5 / (8 : Int32))) (nI (id6 g fa b.length ct)) ((M13 13 2) - (1 : Int32)) (fun (M15 : cM) =>
 wp_X4_copy_6_3 M15 L x5 (r12 + (20 : Int32)) v11 (fun (M16 : cM) =>
 ((¬ v11 = x10 →
 ∀ x18 : Int32, x18 = (x5 + v11) →
 ∀ x19 : Int32, x19 = (x6 + (1 : Int32)) →
 (I37 x18 x19 M16 ∧ m37 x18 x19 M16 < m37 x5 x6 M7)) ∧
 (v11 = x10 →
 Z M16))))) ∧
 ((x10 ≤ v11 →
 K118 (0 : Int32)) ∧
 (¬ x10 ≤ v11 →
 K118 (8192 : Int32)))))) ∧
 ((x4 < x10 →
 K88 ((x4 / (8 : Int32)) * (8 : Int32))) ∧
 (¬ x4 < x10 →
 K88 x10))))))) := by
    intro M3 f3 s3 c3 x4 hx4
    have ex4 : x4 = nI (m4 - 20) := by rw [hx4, s3 12 (by decide), hm4]; exact pk_sub (b := 20) (by omega)
    subst ex4
    unfold sd4 at h
    generalize hpk : pc4 kp (wh6 fa b.length) (mfs g fa) (tc6 g 0) (id6 g fa b.length ct) (ofs g fa) (g 7 - 1) x s t m4 b = pk at h
    have o3 : outC M3 [] := outC_f ho f3 (by decide) (by decide) (by decide) (by decide) (by decide)
    refine ⟨fun x5 x6 M7 => ∃ d k PK, x5 = nI d ∧ x6 = nI k ∧ outC M7 PK ∧ PK.length = k ∧ PK.flatten.length = 20 * k + d ∧ 48 * k ≤ d ∧ d ≤ b.length ∧ (k = 0 ∨ d < b.length) ∧ (k = 0 → d = 0) ∧ fr M3 M7 [5, 6, 7, 8, 9] ∧ pInv (sz4 m4 b.length) pk b.length PK d, fun x5 _ _ => 3000 - x5.toNatClampNeg, ⟨0, 0, [], rfl, rfl, o3, rfl, rfl, by omega, by omega, Or.inl rfl, fun _ => rfl, fr_r _ _, pInv_0 _ _ _⟩, ?_⟩
    rintro _ _ M7 ⟨d, k, PK, rfl, rfl, o7, e1, e2, e3, e4, e5, e6, f7, hI⟩
    have hk1 : k ≤ 48 := by omega
    have f7' : fr M M7 [0, 5, 6, 7, 8, 9] := fr_t (fr_s f3 (by decide)) (fr_s f7 (by decide))
    refine qg k _ (fun c => by omega) (fun _ => ?_) rfl (by omega) (by omega)
    rw [f7' 3 (by decide), hb1]
    refine pk_lt b.length d (fun c => by omega) (fun cd => ?_) rfl rfl (by omega) (by omega)
    rw [show nI b.length - nI d = nI (b.length - d) from pk_sub cd]
    rintro _ rfl
    have hsz := sz4_le (m4 := m4) (n := b.length) (d := d)
    refine ⟨fun v => v = nI (sz4 m4 b.length d), ?_, ?_⟩
    rotate_left
    · unfold sz4
      refine pk_lt (m4 - 20) (b.length - d) (fun c => ?_) (fun c => by rw [if_pos c]) rfl rfl (by omega) (by omega)
      rw [if_neg (by omega), show nI (m4 - 20) / (8 : Int32) = nI ((m4 - 20) / 8) from pk_div (by omega) (by decide) (by decide)]
      exact nI_mul' _ 8
    rintro _ rfl
    obtain ⟨hroom1, hroom2⟩ : 20 * k + d + 20 ≤ 3332 ∧ 20 * k + d + 20 + sz4 m4 b.length d ≤ 3332 := by refine ⟨?_, ?_⟩ <;> omega
    have hds : d + sz4 m4 b.length d ≤ b.length := by omega
    have hpl := pc4_len kp (wh6 fa b.length) (mfs g fa) (tc6 g 0) (id6 g fa b.length ct) (ofs g fa) (g 7 - 1) x s t m4 b d
    rw [hpk] at hpl
    refine p_open PK (20 + sz4 m4 b.length d) o7 (by omega) (fun M8 f8 cl => ?_) (nI_add 20 _)
    rw [e2] at cl ⊢
    have f8' : fr M3 M8 [5, 6, 7, 8, 9] := fr_t f7 (fr_s f8 (by decide))
    have f80 : fr M M8 [0, 5, 6, 7, 8, 9] := fr_t (fr_s f3 (by decide)) (fr_s f8' (by decide))
    have e13 : M8 13 = M 13 := f80 13 (by decide)
    have e80 : M8 0 14 = bI kp := by rw [f8' 0 (by decide), s3 14 (by decide)]; exact hk
    refine ⟨fun v => v = nI (cI (d + sz4 m4 b.length d < b.length) 8192 0), ?_, ?_⟩
    rotate_left
    · refine pk_le (b.length - d) (sz4 m4 b.length d) (fun c => ?_) (fun c => ?_) rfl rfl (by omega) (by omega)
      · rw [cI_f (by omega)]; rfl
      · rw [cI_t (by omega)]; rfl
    rintro _ rfl
    have efl : (nI (cI (fa ≠ NO) (cI (mfs g fa) 8192 0 + ofs g fa) (cI (1260 < 20 + b.length) 16384 0)) ||| nI (cI (d + sz4 m4 b.length d < b.length) 8192 0)) + (nI d / (8 : Int32)) = nI (cI (wh6 fa b.length) 16384 0 + cI (d + sz4 m4 b.length d < b.length ∨ mfs g fa) 8192 0 + (ofs g fa * 8 + d) / 8) := by
      rw [show nI d / (8 : Int32) = nI (d / 8) from pk_div (by omega) (by decide) (by decide), show (ofs g fa * 8 + d) / 8 = ofs g fa + d / 8 by omega]
      by_cases q1 : fa = NO
      · rw [cI_f (fun z => z q1)]
        have hN := NO_row g
        rw [← q1] at hN
        rw [hN.1]
        have emo : cI (d + sz4 m4 b.length d < b.length ∨ mfs g fa) 8192 0 = cI (d + sz4 m4 b.length d < b.length) 8192 0 := cI_iff ⟨fun z => z.resolve_right hN.2.1, Or.inl⟩
        rw [emo]
        by_cases q2 : 1260 < 20 + b.length
        · have q3 := hw ⟨q1, q2⟩
          have q4 : ¬ d + sz4 m4 b.length d < b.length := by unfold sz4; rw [if_pos (by omega)]; omega
          rw [cI_t q2, cI_f q4, cI_t (show wh6 fa b.length from ⟨q1, q2⟩), show nI 16384 ||| nI 0 = nI 16384 from by decide, nI_add, Nat.zero_add]
        · rw [cI_f q2, cI_f (show ¬ wh6 fa b.length from fun z => q2 z.2), show nI 0 ||| nI (cI (d + sz4 m4 b.length d < b.length) 8192 0) = nI (cI (d + sz4 m4 b.length d < b.length) 8192 0) from by rw [nI_or, Nat.zero_or], nI_add, Nat.zero_add, Nat.zero_add]
      · rw [cI_t q1, cI_f (show ¬ wh6 fa b.length from fun z => q1 z.1), Nat.zero_add]
        by_cases q2 : mfs g fa
        · rw [cI_t q2, cI_t (Or.inr q2)]
          by_cases q3 : d + sz4 m4 b.length d < b.length
          · rw [cI_t q3, show nI (8192 + ofs g fa) ||| nI 8192 = nI (8192 + ofs g fa) from by rw [← nI_or13 ho4, Int32.or_assoc]; rw [show (8192 : Int32) ||| nI 8192 = 8192 from by decide], nI_add]; congr 1; omega
          · rw [cI_f q3, show nI (8192 + ofs g fa) ||| nI 0 = nI (8192 + ofs g fa) from Int32.or_zero, nI_add]; congr 1; omega
        · rw [cI_f q2, Nat.zero_add]
          by_cases q3 : d + sz4 m4 b.length d < b.length
          · rw [cI_t q3, cI_t (Or.inl q3), show nI (ofs g fa) ||| nI 8192 = nI (8192 + ofs g fa) from nI_or13 ho4, nI_add]; congr 1; omega
          · rw [cI_f q3, cI_f (fun z => z.elim q3 q2), show nI (ofs g fa) ||| nI 0 = nI (ofs g fa) from Int32.or_zero, nI_add, Nat.zero_add]
    rw [efl]
    refine c_putFour_6_13 (20 * k + d) (20 + sz4 m4 b.length d) (cI (wh6 fa b.length) 16384 0 + cI (d + sz4 m4 b.length d < b.length ∨ mfs g fa) 8192 0 + (ofs g fa * 8 + d) / 8) (id6 g fa b.length ct) (g 7 - 1) (tc6 g 0) x s t kp (by rw [e13]; exact h1) (by rw [e13]; exact h3) (by rw [e13]; exact h10) (by rw [e13]; exact h11) e80 ltc lx hroom1 (fun M9 w9 => ?_) rfl (nI_add 20 _) rfl rfl (by rw [e13, h2]; exact pk_sub (a := g 7) (b := 1) (by omega))
    have e94 : M9 4 = M 4 := (w9.1 4 (by decide)).trans (f80 4 (by decide))
    refine c_copy63 (b := b) d (20 * k + d + 20) (sz4 m4 b.length d) (by rw [e94]; exact hb) (fun M11 w11 => ?_) hds (by omega) hroom2 rfl (nI_add _ 20) rfl
    have w12 := wr_app w9 w11 (by rw [hd4_len])
    have w13 : wr M8 M11 7 (20 * k + d) (pk d) := by rw [← hpk]; exact w12
    have o11 := cl M11 (pk d) w13 hpl (by rw [← Nat.add_assoc]; exact hroom2)
    have f11 : fr M3 M11 [5, 6, 7, 8, 9] := fr_t f8' (wr_fr w13 (by decide))
    refine pn_eq (sz4 m4 b.length d) (b.length - d) (fun c => ?_) (fun c => ?_) rfl rfl (by omega) (by omega)
    · refine h M11 (fr_t (fr_s f3 (by decide)) (fr_s f11 (by decide))) (fun j hj => by rw [f11 0 (by decide)]; exact s3 j hj) (by rw [f11 0 (by decide)]; exact c3) ?_
      rw [← pInv_e hI (by omega)]
      exact o11
    · have hz : sz4 m4 b.length d = (m4 - 20) / 8 * 8 := by
        unfold sz4 at c ⊢
        by_cases q : b.length - d ≤ m4 - 20
        · rw [if_pos q] at c; exact absurd rfl c
        · rw [if_neg q]
      rintro _ rfl _ rfl
      refine ⟨⟨d + sz4 m4 b.length d, k + 1, PK ++ [pk d], nI_add _ _, nI_1 k, o11, by rw [List.length_append, e1]; rfl, ?_, by omega, by omega, Or.inr (by omega), fun z => by omega, f11, pInv_s hI (by omega) (by omega)⟩, ?_⟩
      · rw [flat_app, List.length_append, e2, hpl]; omega
      · dsimp only
        rw [nI_add, nI_clamp (by omega), nI_clamp (by omega)]
        omega
  unfold wp_X6_identFor_0_13
  rw [hr.2.2.2.1, hr.1, hct]
  refine bz (fun c => ?_) (fun c => ?_)
  · have c' : fa = NO := Classical.byContradiction c
    have eI : id6 g fa b.length ct = cI (1260 < 20 + b.length) 0 ((ct + 1) % 65536) := cI_f c
    have eC : ct6 fa b.length ct = cI (1260 < 20 + b.length) ct ((ct + 1) % 65536) := cI_f c
    rw [cI_f c, eI, eC] at main
    rw [cI_f c]
    by_cases c2 : 1260 < 20 + b.length
    · rw [cI_t c2, cI_t c2, cI_t c2] at main
      rw [cI_t c2]
      exact ⟨fun z => absurd z (by decide), fun _ => main M (fr_r _ _) (fun _ _ => rfl) hct⟩
    · rw [cI_f c2, cI_f c2, cI_f c2] at main
      rw [cI_f c2]
      refine ⟨fun _ => ?_, fun z => absurd (by decide) z⟩
      rw [show (nI ct + (1 : Int32)) &&& (65535 : Int32) = nI ((ct + 1) % 65536) from by rw [nI_1]; exact nx_mod _]
      rintro _ rfl
      exact main _ (mu_fr _ _ _ _ (by decide)) (fun j hj => mu_oth _ _ _ _ hj) rfl
  · have eI : id6 g fa b.length ct = ids g fa := cI_t c
    have eC : ct6 fa b.length ct = ct := cI_t c
    rw [eI, eC] at main
    exact main M (fr_r _ _) (fun _ _ => rfl) hct
/-! the reference -/
theorem d_class6 {M : cM} {L : cL} {x : Int32} {Z : Int32 → Prop} {g : Nat → Nat} (a : Nat) (hg : at8 (M 1) 2400 = g) (h6 : g a / 16 = 6) (h : Z (nI (tc6 g a))) (ha : a + 3 < 2400) (hx : x = nI a) : wp_X7_class6_0 M L x Z := by
  subst hx
  have hgb : ∀ i, g i < 256 := fun i => by rw [← hg]; exact at8_lt _ _ _
  have h2 := wd8_lt hgb (a + 2)
  have h1 := hgb (a + 1)
  unfold wp_X7_class6_0
  refine d_int a hg ?_ ha rfl
  have hwa : wd8 g a < 28672 := by
    have h0 : g a < 112 := by omega
    unfold wd8
    clear h2 h6
    omega
  have hl : num8 g a 4 < 2 ^ 31 := by rw [num8_4]; omega
  rw [show nI (num8 g a 4) >>> ((20 : Int32) &&& 31) = nI (num8 g a 4 / 2 ^ 20) from pk_shrN hl _ 20 (by decide), show nI (num8 g a 4 / 2 ^ 20) &&& (255 : Int32) = nI (num8 g a 4 / 2 ^ 20 % 2 ^ 8) from pk_andN (by omega) 8 (by decide)]
  rw [show num8 g a 4 / 2 ^ 20 % 2 ^ 8 = tc6 g a from by rw [num8_4]; unfold tc6; omega]
  exact h
theorem d_loop4 {M : cM} {L : cL} {r x30 v29 v32 : Int32} {Z : Int32 → cM → cL → Prop} {g : Nat → Nat} (x fa s t m4 ct id : Nat) (b : List Nat) (kp : Prop) (hg : at8 (M 1) 2400 = g) (h6 : g 0 / 16 = 6) (hk : M 0 11 = bI kp) (h33 : M 0 33 = nI (ofs g fa * 8)) (h34 : M 0 34 = bI (mfs g fa)) (h35 : M 0 35 = nI x) (lx : x < 256) (h25 : M 0 25 = nI s) (h26 : M 0 26 = nI t) (ho : outR M []) (hb : holds (M 5) 0 b) (hb1 : M 0 24 = nI b.length) (hbl : b.length ≤ 2352) (hh : 1 < g 7) (l4 : 68 ≤ m4) (l4' : m4 ≤ 2000) (hw : wh6 fa b.length → 20 + b.length ≤ m4) (hof : ofs g fa * 8 + b.length ≤ 65535) (hid : id = id6 g fa b.length ct)
    (h : ∀ M' L', fz M M' [0, 2, 3, 4] [20, 22] → fL L L' [18] → M' 2 = upv (M 2) 0 → outR M' (sd4 g kp x fa s t m4 ct b) → Z 0 M' L') (er : r = nI (g 7)) (e30 : x30 = nI id) (e29 : v29 = bI (wh6 fa b.length)) (e32 : v32 = nI (cI (¬ wh6 fa b.length ∧ m4 < 20 + b.length) (m4 - 20) b.length)) : wp_loop4 M L r x30 v29 v32 Z := by
  subst er e30 e29 e32 hid
  have hgb : ∀ i, g i < 256 := fun i => by rw [← hg]; exact at8_lt _ _ _
  have ho4 := ofs_lt hgb fa
  have hb7 := hgb 7
  have ltc : tc6 g 0 < 256 := Nat.mod_lt _ (by decide)
  unfold sd4 at h
  unfold wp_loop4
  generalize hpk : pc4 kp (wh6 fa b.length) (mfs g fa) (tc6 g 0) (id6 g fa b.length ct) (ofs g fa) (g 7 - 1) x s t m4 b = pk at h
  refine ⟨fun x M7 L7 => ∃ d k PK, x = nI d ∧ outR M7 PK ∧ PK.length = k ∧ PK.flatten.length = 20 * k + d ∧ 48 * k ≤ d ∧ d ≤ b.length ∧ (k = 0 ∨ d < b.length) ∧ (k = 0 → d = 0) ∧ fz M M7 [0, 3, 4] [20, 22] ∧ fL L L7 [18] ∧ pInv (sz4 m4 b.length) pk b.length PK d, fun x _ _ => 3000 - x.toNatClampNeg, ⟨0, 0, [], rfl, ho, rfl, rfl, by omega, by omega, Or.inl rfl, fun _ => rfl, fz_r _ _ _, fL_r _ _, pInv_0 _ _ _⟩, ?_⟩
  rintro _ M7 L7 ⟨d, k, PK, rfl, o7, e1, e2, e3, e4, e5, e6, f7, k7, hI⟩
  have hk1 : k ≤ 48 := by omega
  have hsz := sz4_le (m4 := m4) (n := b.length) (d := d)
  have hpl := pc4_len kp (wh6 fa b.length) (mfs g fa) (tc6 g 0) (id6 g fa b.length ct) (ofs g fa) (g 7 - 1) x s t m4 b d
  rw [hpk] at hpl
  refine ⟨fun v => v = nI (sz4 m4 b.length d), ?_, ?_⟩
  rotate_left
  · rw [f7.2 24 (by decide), hb1, show nI b.length - nI d = nI (b.length - d) from pk_sub e4]
    have hc : cI (¬ wh6 fa b.length ∧ m4 < 20 + b.length) (m4 - 20) b.length ≤ 3000 := cI_le (by omega) (by omega)
    unfold sz4
    refine pk_lt (cI (¬ wh6 fa b.length ∧ m4 < 20 + b.length) (m4 - 20) b.length) (b.length - d) (fun c => ?_) (fun c => ?_) rfl rfl (by omega) (by omega)
    · by_cases z : ¬ wh6 fa b.length ∧ m4 < 20 + b.length
      · rw [cI_t z] at c ⊢
        rw [if_neg (by omega), show nI (m4 - 20) / (8 : Int32) = nI ((m4 - 20) / 8) from pk_div (by omega) (by decide) (by decide)]
        exact nI_mul' _ 8
      · rw [cI_f z] at c; omega
    · by_cases z : ¬ wh6 fa b.length ∧ m4 < 20 + b.length
      · rw [cI_t z] at c
        rw [if_pos c]
      · have : 20 + b.length ≤ m4 := by
          by_cases y : wh6 fa b.length
          · exact hw y
          · exact Nat.le_of_not_lt (fun w => z ⟨y, w⟩)
        rw [if_pos (by omega)]
  rintro _ rfl
  refine r_more (20 * k + d) (20 + sz4 m4 b.length d) (fun M8 w8 => ?_) (by rw [o7.2.1, e2]) (by omega) (nI_add 20 _)
  have f9 : fz M (mu M8 0 20 (nI (20 * k + d + (20 + sz4 m4 b.length d)))) [0, 3, 4] [20, 22] := fz_t (fz_t f7 (wr_fz w8 (by decide) (by decide))) (mu_fz0 _ _ _ (by decide) (by decide))
  have z9 : holds (mu M8 0 20 (nI (20 * k + d + (20 + sz4 m4 b.length d))) 3) (20 * k + d) (zs (20 + sz4 m4 b.length d)) := w8.2.2
  have q9 : holds (mu M8 0 20 (nI (20 * k + d + (20 + sz4 m4 b.length d))) 3) 0 PK.flatten := wr_keep (M' := M8) (c := 3) (a := 20 * k + d) (b := 0) (m := PK.flatten) w8 o7.2.2.2 (Or.inl (by omega))
  have p9 : mu M8 0 20 (nI (20 * k + d + (20 + sz4 m4 b.length d))) 0 20 = nI (20 * k + d + (20 + sz4 m4 b.length d)) := rfl
  have t9 : mu M8 0 20 (nI (20 * k + d + (20 + sz4 m4 b.length d))) 0 22 = nI PK.length := (by rw [w8.1 0 (by decide)]; exact o7.1 : M8 0 22 = nI PK.length)
  have u9 : ∀ i, i ≤ PK.length → mu M8 0 20 (nI (20 * k + d + (20 + sz4 m4 b.length d))) 4 i = nI (offs PK i) := fun i hi => (by rw [w8.1 4 (by decide)]; exact o7.2.2.1 i hi : M8 4 i = nI (offs PK i))
  generalize mu M8 0 20 (nI (20 * k + d + (20 + sz4 m4 b.length d))) = M9 at f9 z9 q9 p9 t9 u9 ⊢
  have g9 : at8 (M9 1) 2400 = g := by rw [f9.1 1 (by decide)]; exact hg
  refine d_class6 0 g9 h6 ?_ (by omega) rfl
  refine ⟨fun v => v = bI (d + sz4 m4 b.length d < b.length ∨ mfs g fa), ?_, ?_⟩
  rotate_left
  · rw [f9.2 24 (by decide), hb1, f9.2 34 (by decide), h34]
    by_cases cm : d + sz4 m4 b.length d < b.length ∨ mfs g fa
    · rw [bI_t cm]
      refine ⟨True, fun _ => rfl, ?_⟩
      refine pk_lt (d + sz4 m4 b.length d) b.length (fun _ => trivial) (fun c3 => ?_) (nI_add _ _) rfl (by omega) (by omega)
      exact bz (fun c4 => absurd (cm.resolve_left (by omega)) c4) (fun _ => trivial)
    · rw [bI_f cm]
      refine ⟨False, False.elim, ?_⟩
      refine pk_lt (d + sz4 m4 b.length d) b.length (fun c3 => cm (Or.inl c3)) (fun c3 => ?_) (nI_add _ _) rfl (by omega) (by omega)
      exact bz (fun c4 => rfl) (fun c4 => cm (Or.inr c4))
  rintro _ rfl
  rw [f9.2 33 (by decide), h33]
  refine d_head4 (20 * k + d) (tc6 g 0) (20 + sz4 m4 b.length d) (id6 g fa b.length ct) (ofs g fa * 8 + d) (g 7 - 1) x s t (sz4 m4 b.length d) kp (wh6 fa b.length) (d + sz4 m4 b.length d < b.length ∨ mfs g fa) (by rw [f9.2 11 (by decide)]; exact hk) (by rw [f9.2 25 (by decide)]; exact h25) (by rw [f9.2 26 (by decide)]; exact h26) (by rw [f9.2 35 (by decide)]; exact h35) lx ltc (by omega) z9 (by omega) (fun M10 L10 w10 k10 => ?_) rfl rfl (nI_add 20 _) rfl rfl (nI_add _ _) rfl (pk_sub (a := g 7) (b := 1) (by omega))
  refine ⟨fun x M11 => ∃ j, j ≤ sz4 m4 b.length d ∧ x = nI j ∧ wr M10 M11 3 (20 * k + d + 20) (seg (at8 (M10 5) 5000) d j), fun x _ => sz4 m4 b.length d - x.toNatClampNeg, ⟨0, Nat.zero_le _, rfl, wr_nil _ _ _⟩, ?_⟩
  rintro _ M11 ⟨j, hj, rfl, w11⟩
  have e20 : M11 0 20 = nI (20 * k + d + (20 + sz4 m4 b.length d)) := by rw [w11.1 0 (by decide), w10.1 0 (by decide)]; exact p9
  refine pk_le (sz4 m4 b.length d) j (fun cj => ?_) (fun cj => ?_) rfl rfl (by omega) (by omega)
  · have ej : j = sz4 m4 b.length d := by omega
    subst ej
    have hb5 : holds (M10 5) 0 b := by rw [w10.1 5 (by decide), f9.1 5 (by decide)]; exact hb
    have es := seg_holds hb5 (n := 5000) (by omega) (i := d) (k := sz4 m4 b.length d) (by omega)
    rw [Nat.zero_add] at es
    rw [es] at w11
    have w12 := wr_ov' w10 w11 (by rw [hd4_len]) 0 (by rw [List.length_take, List.length_drop, Nat.min_eq_left hsz]; rfl)
    rw [show zs 0 = [] from rfl, List.append_nil] at w12
    have w13 : wr M9 M11 3 (20 * k + d) (pk d) := by rw [← hpk]; exact w12
    have hw22 : M11 0 22 = nI PK.length := by rw [w13.1 0 (by decide)]; exact t9
    have hw4 : ∀ i, i ≤ PK.length → M11 4 i = nI (offs PK i) := by rw [w13.1 4 (by decide)]; exact u9
    refine r_part PK (pk d) hw22 (by rw [e20, e2, hpl]) hw4 (wr_keep (b := 0) (m := PK.flatten) w13 q9 (Or.inl (by omega))) (by rw [e2]; exact w13.2.2) (by omega) (fun M12 f12 o12 => ?_)
    rintro _ rfl
    have f13 : fz M M12 [0, 3, 4] [20, 22] := fz_t (fz_t f9 (wr_fz w13 (by decide) (by decide))) (fz_s f12 (by decide) (by decide))
    refine pk_lt (d + sz4 m4 b.length d) b.length (fun c => ?_) (fun c => ?_) (nI_add _ _) (by rw [f13.2 24 (by decide)]; exact hb1) (by omega) (by omega)
    · have hz : sz4 m4 b.length d = (m4 - 20) / 8 * 8 := by
        unfold sz4 at c ⊢
        by_cases q : b.length - d ≤ m4 - 20
        · rw [if_pos q] at c; omega
        · rw [if_neg q]
      refine ⟨⟨d + sz4 m4 b.length d, k + 1, PK ++ [pk d], nI_add _ _, o12, by rw [List.length_append, e1]; rfl, ?_, by omega, by omega, Or.inr (by omega), fun z => by omega, f13, fL_t k7 k10, pInv_s hI (by omega) (by omega)⟩, ?_⟩
      · rw [flat_app, List.length_append, e2, hpl]; omega
      · dsimp only
        rw [nI_add, nI_clamp (by omega), nI_clamp (by omega)]
        omega
    · refine r_tellK 0 (Or.inl rfl) (fun M14 f14 e14 => ?_) rfl
      refine h M14 L10 (fz_t (fz_s f13 (by decide) (by decide)) (fz_s f14 (by decide) (by decide))) (fL_t k7 k10) (by rw [e14, f13.1 2 (by decide)]) ?_
      rw [← pInv_e hI (by omega)]
      exact outR_f o12 f14 (by decide) (by decide) (by decide) (by decide)
  · rw [e20, nI_add, show nI (20 * k + d + (20 + sz4 m4 b.length d)) - nI (sz4 m4 b.length d) = nI (20 * k + d + 20) from by rw [pk_sub (by omega)]; congr 1; omega, nI_add, nI_clamp (by omega), nI_clamp (by omega)]
    refine ⟨vp_in_nI (by omega) (by decide), vp_in_nI (by omega) (by decide), ?_⟩
    rintro _ rfl _ rfl
    refine ⟨⟨j + 1, by omega, nI_1 _, cp_step w11 (by decide) (by omega)⟩, ?_⟩
    dsimp only
    rw [nI_1, nI_clamp (by omega), nI_clamp (by omega)]
    omega
