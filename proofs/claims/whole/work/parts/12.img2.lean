/-- the k-th bit of 128 -/
def bitN (h l : Int64) (k : Nat) : Nat := if k < 64 then uN h / 2 ^ (63 - k) % 2 else uN l / 2 ^ (127 - k) % 2
theorem bitN_lt (h l : Int64) (k : Nat) : bitN h l k < 2 := by unfold bitN; split <;> exact Nat.mod_lt _ (by decide)
theorem bitL (x : Int64) {k : Nat} (hk : k < 64) : ((((x.toUInt64 >>> ((nI k).toInt64.toUInt64 &&& Int64.toUInt64 63)).toInt64) &&& (1 : Int64)).toInt32) = nI (uN x / 2 ^ k % 2) := by
  have e := wb_bit (n := uN x) (uN_lt x) hk
  rw [lN_uN] at e
  rw [e, lN_i]
theorem r_bit {M : cM} {L : cL} {h l : Int64} {x : Int32} {Z : Int32 → Prop} (k : Nat) (hz : Z (nI (bitN h l k))) (hk : k < 128) (hx : x = nI k) : wp_X7_bit M L h l x Z := by
  subst hx
  unfold wp_X7_bit
  unfold bitN at hz
  refine qg _ _ (fun c => ?_) (fun c => ?_) rfl (by omega) (by omega)
  · rw [if_neg (by omega)] at hz
    rw [show (127 : Int32) - nI k = nI (127 - k) from pk_sub (a := 127) (by omega), bitL l (by omega)]
    exact hz
  · rw [if_pos c] at hz
    rw [show (63 : Int32) - nI k = nI (63 - k) from pk_sub (a := 63) (by omega), bitL h (by omega)]
    exact hz
theorem nI_or (a b : Nat) : nI a ||| nI b = nI (a ||| b) := by
  apply Int32.toBitVec_inj.mp
  rw [Int32.toBitVec_or]
  show BitVec.ofNat 32 a ||| BitVec.ofNat 32 b = BitVec.ofNat 32 (a ||| b)
  exact BitVec.ofNat_or.symm
theorem nI_orN {a b k : Nat} (hb : b < 2 ^ k) : nI (a * 2 ^ k) ||| nI b = nI (a * 2 ^ k + b) := by
  rw [nI_or]
  congr 1
  have := Nat.shiftLeft_add_eq_or_of_lt hb a
  rw [Nat.shiftLeft_eq] at this
  exact this.symm
theorem nI_modE {a b : Nat} (h : a % 4294967296 = b % 4294967296) : nI a = nI b := by
  apply Int32.toBitVec_inj.mp
  apply BitVec.eq_of_toNat_eq
  show (BitVec.ofNat 32 a).toNat = (BitVec.ofNat 32 b).toNat
  rw [BitVec.toNat_ofNat, BitVec.toNat_ofNat]
  exact h
/-- where the t-th bit of the address stands -/
def kk (B t : Nat) : Nat := if B = 96 ∨ t < 64 - B then B + t else B + t + 8
/-- the first bits of the address that an image would have -/
def rdv (h l : Int64) (B : Nat) : Nat → Nat
  | 0 => 0
  | t + 1 => 2 * rdv h l B t + bitN h l (kk B t)
theorem rdv_lt (h l : Int64) (B t : Nat) : rdv h l B t < 2 ^ t := by
  induction t with
  | zero => exact Nat.zero_lt_one
  | succ t ih => unfold rdv; have := bitN_lt h l (kk B t); rw [Nat.pow_succ]; omega
theorem r_isImage {M : cM} {L : cL} {hh ll : Int64} {Z : Int32 → cM → cL → Prop} (H Lo : Int64) (B : Nat) (h : ∀ L' : cL, (∀ c', c' ≠ 0 → L' c' = L c') → (∀ j, j ≠ 15 → j ≠ 16 → L' 0 j = L 0 j) → Z (bI (upA H B (rdv hh ll B 32) = hh ∧ loA Lo B (rdv hh ll B 32) = ll ∧ okA H Lo B (rdv hh ll B 32))) (mu M 0 17 (nI (rdv hh ll B 32))) L') (hp : pfx H Lo B) (h0 : L 0 3 = H) (h1 : L 0 4 = Lo) (h2 : M 0 5 = nI B) : wp_X7_isImage_0 M L hh ll Z := by
  unfold wp_X7_isImage_0
  rintro x1 rfl
  rw [h2]
  have hB := pfx_B hp
  refine ⟨fun v k i => ∃ t, t ≤ 32 ∧ i = nI (32 - t) + (-1) ∧ (k = nI (kk B t) ∨ (k = nI (B + t) ∧ B + t = 64)) ∧ v = nI (rdv hh ll B t * 2 ^ (32 - t)), fun _ _ i => (i + 1).toNatClampNeg, ⟨0, by omega, by decide, ?_, ?_⟩, ?_⟩
  · unfold kk
    by_cases c : B = 64
    · exact Or.inr ⟨rfl, by omega⟩
    · exact Or.inl (by rw [if_pos (by omega)]; rfl)
  · unfold rdv; rw [Nat.zero_mul]; rfl
  rintro v k i ⟨t, ht, rfl, hk, rfl⟩
  have hlt := rdv_lt hh ll B t
  by_cases ht2 : t = 32
  · subst ht2
    refine ⟨fun _ => ?_, fun c => absurd (by decide) c⟩
    rintro M6 rfl
    rw [Nat.sub_self, Nat.pow_zero, Nat.mul_one]
    have hv : rdv hh ll B 32 < 4294967296 := hlt
    refine r_makeImage H Lo B (rdv hh ll B 32) (fun L7 f0 f1 e15 e16 => ?_) hv hp h0 h1 h2 rfl
    rw [e15, e16, lg_cmp_eq, lg_cmp_eq]
    have hz := h L7 f0 f1
    refine ⟨fun c => ?_, fun c1 => ⟨fun c => ?_, fun c2 => ?_⟩⟩
    · rw [bI_f (fun z => c z.1)] at hz; exact hz
    · rw [bI_f (fun z => c z.2.1)] at hz; exact hz
    · refine r_mappable H Lo B (rdv hh ll B 32) ?_ hv (by omega) ((f1 3 (by decide) (by decide)).trans h0) ((f1 4 (by decide) (by decide)).trans h1) h2 rfl
      refine bz (fun c => ?_) (fun c => ?_)
      · rw [bI_f (fun z => c z.2.2)] at hz; exact hz
      · rw [bI_t ⟨c1, c2, c⟩] at hz; exact hz
  · have e1 : nI (32 - t) + (-1) = nI (31 - t) := by rw [sb_m1 (by omega)]; congr 1; omega
    rw [e1]
    refine ⟨fun c => absurd c (nI_pos (by omega)), fun _ => ?_⟩
    have hkk : kk B t < 128 := by unfold kk; split <;> omega
    refine ⟨fun x12 => x12 = nI (kk B t), ?_, ?_, ?_⟩
    · rintro x12 rfl
      refine r_bit (kk B t) ?_ hkk rfl
      rintro x14 rfl x15 rfl x16 rfl
      refine ⟨⟨t + 1, by omega, by rw [show 32 - (t + 1) = 31 - t by omega], ?_, ?_⟩, ?_⟩
      · unfold kk
        rw [nI_1]
        by_cases c : B = 96 ∨ t < 64 - B
        · rw [if_pos c]
          by_cases c2 : B = 96 ∨ t + 1 < 64 - B
          · rw [if_pos c2]; exact Or.inl (congrArg nI (by omega))
          · exact Or.inr ⟨congrArg nI (by omega), by omega⟩
        · rw [if_neg c, if_neg (by omega)]; exact Or.inl (congrArg nI (by omega))
      · have hb := bitN_lt hh ll (kk B t)
        have e3 : 32 - t = 31 - t + 1 := by omega
        have hpw : (2 : Nat) ^ (31 - t) ≤ 2 ^ 31 := Nat.pow_le_pow_right (by decide) (by omega)
        have h3 : bitN hh ll (kk B t) * 2 ^ (31 - t) < 2 ^ (32 - t) := by
          rw [e3, Nat.pow_succ, Nat.mul_comm (2 ^ (31 - t)) 2]
          exact Nat.mul_lt_mul_of_pos_right hb (Nat.two_pow_pos _)
        have h4 : (2 : Nat) ^ (32 - t) ≤ 2 ^ 32 := Nat.pow_le_pow_right (by decide) (by omega)
        rw [pk_shlN (n := bitN hh ll (kk B t)) (nI (31 - t) &&& 31) (31 - t) (s_l _ (by omega)) (by omega), nI_orN h3, show 32 - (t + 1) = 31 - t by omega]
        congr 1
        show _ = (2 * rdv hh ll B t + bitN hh ll (kk B t)) * 2 ^ (31 - t)
        rw [e3, Nat.pow_succ, Nat.add_mul, Nat.mul_comm (2 ^ (31 - t)) 2, ← Nat.mul_assoc, Nat.mul_comm 2 (rdv hh ll B t)]
      · dsimp only; rw [im1, nI_1, nI_clamp (by omega), nI_clamp (by omega)]; omega
    · intro c
      rcases hk with hk | ⟨hk, h64⟩
      · exact hk
      · exact absurd (by rw [hk, h64]; rfl) c
    · intro c
      rcases hk with hk | ⟨hk, h64⟩
      · rw [hk] at c
        have := (nI_eq (a := kk B t) (b := 64) (by omega) (by decide)).mp c
        unfold kk at this
        split at this <;> omega
      · show nI 72 = _
        congr 1
        unfold kk
        rw [if_neg (by omega)]; omega
theorem up_num {H Lo : Int64} {B : Nat} (hp : pfx H Lo B) (hB : B ≠ 96) {v : Nat} (hv : v < 4294967296) : uN (upA H B v) = uN H + v / 2 ^ (B - 32) ∧ v / 2 ^ (B - 32) < 2 ^ (64 - B) ∧ ∃ q, uN H = q * 2 ^ (64 - B) := by
  rcases hp with ⟨h1, h2, _, _, h4⟩ | ⟨h, _⟩
  · have hq : uN H = uN H / 2 ^ (64 - B) * 2 ^ (64 - B) := by
      have := Nat.div_add_mod (uN H) (2 ^ (64 - B))
      rw [h4, Nat.mul_comm] at this; omega
    have hl : v / 2 ^ (B - 32) < 2 ^ (64 - B) := by
      rw [Nat.div_lt_iff_lt_mul (Nat.two_pow_pos _), ← Nat.pow_add, show 64 - B + (B - 32) = 32 by omega]; exact hv
    refine ⟨?_, hl, _, hq⟩
    unfold upA
    rw [if_neg hB]
    have hH := uN_lt H
    have hsum : uN H / 2 ^ (64 - B) * 2 ^ (64 - B) + v / 2 ^ (B - 32) < 2 ^ 64 := by
      have : uN H / 2 ^ (64 - B) < 2 ^ B := by
        rw [Nat.div_lt_iff_lt_mul (Nat.two_pow_pos _), ← Nat.pow_add, show B + (64 - B) = 64 by omega]; exact hH
      have h5 : (uN H / 2 ^ (64 - B) + 1) * 2 ^ (64 - B) ≤ 2 ^ B * 2 ^ (64 - B) := Nat.mul_le_mul_right _ this
      rw [← Nat.pow_add, show B + (64 - B) = 64 by omega, Nat.add_mul, Nat.one_mul] at h5
      omega
    have e : H = lN (uN H / 2 ^ (64 - B) * 2 ^ (64 - B)) := by rw [← hq, lN_uN]
    rw [show H ||| lN (v / 2 ^ (B - 32)) = lN (uN H / 2 ^ (64 - B) * 2 ^ (64 - B)) ||| lN (v / 2 ^ (B - 32)) from congrArg (· ||| _) e, g_or (k := 64 - B) rfl hl hsum, uN_lN, Nat.mod_eq_of_lt hsum, ← hq]
  · exact absurd h hB
theorem lo_num {H Lo : Int64} {B : Nat} (hp : pfx H Lo B) (hB : B ≠ 96) (v : Nat) : uN (loA Lo B v) = v % 2 ^ (B - 32) * 2 ^ (88 - B) := by
  rcases hp with ⟨h1, h2, _, _, h4⟩ | ⟨h, _⟩
  · unfold loA
    rw [if_neg hB, uN_lN, Nat.mod_eq_of_lt]
    have h5 : v % 2 ^ (B - 32) < 2 ^ (B - 32) := Nat.mod_lt _ (Nat.two_pow_pos _)
    have h6 : v % 2 ^ (B - 32) * 2 ^ (88 - B) < 2 ^ (B - 32) * 2 ^ (88 - B) := Nat.mul_lt_mul_of_pos_right h5 (Nat.two_pow_pos _)
    rw [← Nat.pow_add] at h6
    show _ < 2 ^ 64
    exact Nat.lt_of_lt_of_le h6 (Nat.pow_le_pow_right (by decide) (by omega))
  · exact absurd h hB
theorem lo_96 {H Lo : Int64} (hp : pfx H Lo 96) {v : Nat} (hv : v < 4294967296) : uN (loA Lo 96 v) = uN Lo + v ∧ ∃ q, uN Lo = q * 2 ^ 32 := by
  rcases hp with ⟨h1, h2, _⟩ | ⟨_, h1, h2⟩
  · omega
  · have hq : uN Lo = uN Lo / 2 ^ 32 * 2 ^ 32 := by omega
    refine ⟨?_, _, hq⟩
    have hl := uN_lt Lo
    unfold loA
    rw [if_pos rfl]
    have e : Lo = lN (uN Lo / 2 ^ 32 * 2 ^ 32) := by rw [← hq, lN_uN]
    rw [show Lo ||| lN v = lN (uN Lo / 2 ^ 32 * 2 ^ 32) ||| lN v from congrArg (· ||| _) e, g_or (k := 32) rfl (by omega) (by omega), uN_lN, Nat.mod_eq_of_lt (by omega), ← hq]
theorem div_pw (x a b : Nat) : x / 2 ^ a / 2 ^ b = x / 2 ^ (a + b) := by rw [Nat.div_div_eq_div_mul, ← Nat.pow_add]
theorem bit_up (q a x s : Nat) (h : s < a) : (q * 2 ^ a + x) / 2 ^ s % 2 = x / 2 ^ s % 2 := by
  have e : q * 2 ^ a = 2 ^ s * (q * 2 ^ (a - s)) := by
    rw [show (2 : Nat) ^ a = 2 ^ s * 2 ^ (a - s) by rw [← Nat.pow_add]; congr 1; omega, ← Nat.mul_assoc, Nat.mul_comm q, Nat.mul_assoc]
  rw [e, Nat.mul_add_div (Nat.two_pow_pos s)]
  have e2 : q * 2 ^ (a - s) = 2 * (q * 2 ^ (a - s - 1)) := by
    rw [show a - s = a - s - 1 + 1 by omega, Nat.pow_succ]
    rw [Nat.add_sub_cancel, ← Nat.mul_assoc, Nat.mul_comm _ 2]
  rw [e2]; omega
/-- the image gives its address back, bit by bit -/
theorem rdv_img {H Lo : Int64} {B : Nat} (hp : pfx H Lo B) {v : Nat} (hv : v < 4294967296) : ∀ t, t ≤ 32 → rdv (upA H B v) (loA Lo B v) B t = v / 2 ^ (32 - t) := by
  intro t
  induction t with
  | zero => intro _; unfold rdv; exact (Nat.div_eq_of_lt hv).symm
  | succ t ih =>
    intro ht
    unfold rdv
    rw [ih (by omega)]
    have e : v / 2 ^ (32 - t) = v / 2 ^ (31 - t) / 2 := by
      rw [show v / 2 ^ (31 - t) / 2 = v / 2 ^ (31 - t) / 2 ^ 1 from rfl, div_pw]; congr 2; omega
    have hb : bitN (upA H B v) (loA Lo B v) (kk B t) = v / 2 ^ (31 - t) % 2 := by
      have hB := pfx_B hp
      by_cases c : B = 96
      · subst c
        obtain ⟨e1, q, e2⟩ := lo_96 hp hv
        unfold bitN kk
        rw [if_pos (Or.inl rfl), if_neg (by omega), e1, e2, show 127 - (96 + t) = 31 - t by omega, bit_up _ _ _ _ (by omega)]
      · obtain ⟨e1, e2, q, e3⟩ := up_num hp c hv
        have e4 := lo_num hp c v
        unfold bitN
        by_cases d : t < 64 - B
        · rw [show kk B t = B + t from if_pos (Or.inr d), if_pos (by omega), e1, e3, bit_up _ _ _ _ (by omega), div_pw]; congr 3; omega
        · rw [show kk B t = B + t + 8 from if_neg (by omega), if_neg (by omega), e4, show 127 - (B + t + 8) = 88 - B + (31 - t) by omega, ← div_pw, Nat.mul_div_cancel _ (Nat.two_pow_pos _), bit_cut _ _ _ (by omega)]
    rw [hb, e, show 32 - (t + 1) = 31 - t by omega]
    omega
theorem rdv_full {H Lo : Int64} {B : Nat} (hp : pfx H Lo B) {v : Nat} (hv : v < 4294967296) : rdv (upA H B v) (loA Lo B v) B 32 = v := by
  rw [rdv_img hp hv 32 (Nat.le_refl _), Nat.sub_self, Nat.pow_zero, Nat.div_one]
/-- the address of an image, or nothing -/
noncomputable def fr4 (H Lo : Int64) (B : Nat) (hh ll : Int64) : Nat := cI (upA H B (rdv hh ll B 32) = hh ∧ loA Lo B (rdv hh ll B 32) = ll ∧ okA H Lo B (rdv hh ll B 32)) (rdv hh ll B 32) 18446744073709551615
theorem fr4_lt {H Lo : Int64} {B : Nat} {hh ll : Int64} : fr4 H Lo B hh ll < 4294967296 ↔ (upA H B (rdv hh ll B 32) = hh ∧ loA Lo B (rdv hh ll B 32) = ll ∧ okA H Lo B (rdv hh ll B 32)) := by
  have := rdv_lt hh ll B 32
  unfold fr4
  refine ⟨fun z => Classical.byContradiction (fun c => ?_), fun c => ?_⟩
  · rw [cI_f c] at z; omega
  · rw [cI_t c]; omega
theorem fr4_v {H Lo : Int64} {B : Nat} {hh ll : Int64} (h : fr4 H Lo B hh ll < 4294967296) : fr4 H Lo B hh ll = rdv hh ll B 32 := by
  have z := fr4_lt.mp h
  unfold fr4; exact cI_t z
theorem fr4_n {H Lo : Int64} {B : Nat} {hh ll : Int64} (h : ¬ fr4 H Lo B hh ll < 4294967296) : fr4 H Lo B hh ll = 18446744073709551615 := by
  unfold fr4; exact cI_f (fun z => h (fr4_lt.mpr z))
/-- what the class reads out of an image -/
theorem cls_img {H Lo : Int64} {B : Nat} (hp : pfx H Lo B) (hB : B ≠ 96) {v : Nat} (hv : v < 4294967296) : (((upA H B v) <<< ((nI (B - 32)).toInt64 &&& 63)) ||| (((loA Lo B v).toUInt64 >>> ((nI (88 - B)).toInt64.toUInt64 &&& Int64.toUInt64 63)).toInt64)).toInt32 = nI v := by
  obtain ⟨e1, e2, q, e3⟩ := up_num hp hB hv
  have e4 := lo_num hp hB v
  have hb : 32 ≤ B ∧ B ≤ 64 := by rcases pfx_B hp with z | z; exact z; exact absurd z hB
  have h5 : v % 2 ^ (B - 32) < 2 ^ (B - 32) := Nat.mod_lt _ (Nat.two_pow_pos _)
  have a1 : upA H B v = lN (uN H + v / 2 ^ (B - 32)) := by rw [← e1, lN_uN]
  have a2 : loA Lo B v = lN (v % 2 ^ (B - 32) * 2 ^ (88 - B)) := by rw [← e4, lN_uN]
  have a3 : v % 2 ^ (B - 32) * 2 ^ (88 - B) < 2 ^ 64 := by rw [← e4]; exact uN_lt _
  rw [Int64.toInt32_or, a1, wb_shl _ (by omega), lN_i, a2, wb_shr a3 (by omega), Nat.mul_div_cancel _ (Nat.two_pow_pos _), lN_i, e3]
  have a4 : nI ((q * 2 ^ (64 - B) + v / 2 ^ (B - 32)) * 2 ^ (B - 32)) = nI (v / 2 ^ (B - 32) * 2 ^ (B - 32)) := by
    apply nI_modE
    rw [Nat.add_mul, Nat.mul_assoc, ← Nat.pow_add, show 64 - B + (B - 32) = 32 by omega]
    omega
  rw [a4, nI_orN h5]
  congr 1
  rw [Nat.mul_comm]
  exact Nat.div_add_mod _ _
theorem cls_img96 {H Lo : Int64} (hp : pfx H Lo 96) {v : Nat} (hv : v < 4294967296) : (loA Lo 96 v).toInt32 = nI v := by
  obtain ⟨e1, q, e2⟩ := lo_96 hp hv
  rw [← lN_uN (loA Lo 96 v), lN_i, e1, e2]
  apply nI_modE
  omega
theorem p_fourOf {M : cM} {L : cL} {hh ll : Int64} {Z : Int64 → Prop} (H Lo : Int64) (B : Nat) (h : Z (lN (fr4 H Lo B hh ll))) (hp : pfx H Lo B) (h0 : L 10 0 = H) (h1 : L 10 1 = Lo) (h2 : M 10 2 = nI B) : wp_X1_fourOf_10 M L hh ll Z := by
  have hB := pfx_B hp
  have hcore : ∀ v1 : Int64, (∀ v, v < 4294967296 → upA H B v = hh → loA Lo B v = ll → v1.toInt32 = nI v) → (∀ x2 : Int32, x2 = v1.toInt32 → wp_X1_upperOf_10 M L x2 (fun (r3 : Int64) =>
 (∃ K63 : Int32 → Prop, (∀ (v4 : Int32), K63 v4 →
 ((v4 = 0 →
 Z (-1 : Int64)) ∧
 (¬ v4 = 0 →
 wp_X1_mappable_10 M L x2 (fun (r6 : Int32) =>
 ((r6 = 0 →
 Z (-1 : Int64)) ∧
 (¬ r6 = 0 →
 Z ((x2.toInt64) &&& (4294967295 : Int64)))))))) ∧
 ∃ K62 : Prop, (K62  →
 K63 (0 : Int32)) ∧
 ((¬ (lg_cmp r3 hh) = 0 →
 K62) ∧
 ((lg_cmp r3 hh) = 0 →
 wp_X1_lowerOf_10 M L x2 (fun (r9 : Int64) =>
 ((¬ (lg_cmp r9 ll) = 0 →
 K62) ∧
 ((lg_cmp r9 ll) = 0 →
 K63 (1 : Int32))))))))) := by
    rintro v1 hv1 x2 rfl
    have hu := u32_lt v1.toInt32
    refine p_upper H B (u32 v1.toInt32) ?_ hu hB h0 h2 (nI_u32 _).symm
    have hnone : ¬ (upA H B (u32 v1.toInt32) = hh ∧ loA Lo B (u32 v1.toInt32) = ll) → Z (-1) := by
      intro c
      have hf : ¬ fr4 H Lo B hh ll < 4294967296 := by
        intro z
        obtain ⟨z1, z2, _⟩ := fr4_lt.mp z
        have e := hv1 _ (rdv_lt hh ll B 32) z1 z2
        rw [e, u32_nI, Nat.mod_eq_of_lt (rdv_lt hh ll B 32)] at c
        exact c ⟨z1, z2⟩
      rw [fr4_n hf] at h
      exact h
    refine ⟨fun v => v = bI (upA H B (u32 v1.toInt32) = hh ∧ loA Lo B (u32 v1.toInt32) = ll), ?_, ?_⟩
    · rintro v rfl
      refine bz hnone (fun c => ?_)
      have e : rdv hh ll B 32 = u32 v1.toInt32 := by
        have := rdv_full hp hu
        rw [c.1, c.2] at this; exact this
      refine p_mappable H Lo B (u32 v1.toInt32) ?_ hu (by omega) h0 h1 h2 (nI_u32 _).symm
      refine bz (fun c2 => ?_) (fun c2 => ?_)
      · have hf : ¬ fr4 H Lo B hh ll < 4294967296 := fun z => by
          have := (fr4_lt.mp z).2.2
          rw [e] at this; exact c2 this
        rw [fr4_n hf] at h
        exact h
      · have hf : fr4 H Lo B hh ll < 4294967296 := fr4_lt.mpr (by rw [e]; exact ⟨c.1, c.2, c2⟩)
        rw [fr4_v hf, e] at h
        have el := l_low hu
        rw [nI_u32] at el
        rw [el]; exact h
    · refine ⟨_, fun hv => hv, ?_⟩
      rw [lg_cmp_eq]
      refine ⟨fun c => (bI_f (fun z => c z.1)).symm, fun c1 => ?_⟩
      refine p_lower Lo B (u32 v1.toInt32) ?_ hu hB h1 h2 (nI_u32 _).symm
      rw [lg_cmp_eq]
      exact ⟨fun c => (bI_f (fun z => c z.2)).symm, fun c2 => (bI_t ⟨c1, c2⟩).symm⟩
  unfold wp_X1_fourOf_10
  refine ⟨fun v1 => ∀ v, v < 4294967296 → upA H B v = hh → loA Lo B v = ll → v1.toInt32 = nI v, hcore, ?_⟩
  unfold wp_X1_bitsBehind_10
  rw [h2]
  refine qen _ _ (fun c => ?_) (fun c => ?_) rfl (by omega) (by omega)
  · intro v hv e1 e2
    subst c
    rw [← e2]; exact cls_img96 hp hv
  · intro v hv e1 e2
    rw [show nI B - (32 : Int32) = nI (B - 32) from pk_sub (b := 32) (by omega), show (56 : Int32) - nI (B - 32) = nI (56 - (B - 32)) from pk_sub (a := 56) (by omega), show 56 - (B - 32) = 88 - B by omega, ← e1, ← e2]
    exact cls_img hp c hv
