/-! what both keep alike -/
def rTape (M N : cM) (n : Nat) : Prop := n ≤ 2400 ∧ M 1 1 = nI n ∧ N 0 2 = nI n ∧ N 1 = M 2 ∧ ∀ j, isBy (M 2 j)
def rMap (M : cM) (L : cL) (N : cM) (K : cL) : Prop := ∃ H Lo B, mapC (M 10) (L 10) H Lo B ∧ mapR N K H Lo B
def rOwn (M : cM) (L : cL) (N : cM) (K : cL) : Prop := M 0 9 = N 0 6 ∧ L 0 10 = K 0 7 ∧ L 0 11 = K 0 8
def rLim (M N : cM) : Prop := ∃ m4 m6, 68 ≤ m4 ∧ m4 ≤ 2000 ∧ 1280 ≤ m6 ∧ m6 ≤ 2000 ∧ M 0 12 = nI m4 ∧ M 0 13 = nI m6 ∧ N 0 9 = nI m4 ∧ N 0 10 = nI m6
def rWay (M N : cM) : Prop := ∃ kp lt : Prop, M 0 14 = bI kp ∧ M 0 15 = bI lt ∧ N 0 11 = bI kp ∧ N 0 12 = bI lt
def rCnt (M N : cM) : Prop := (∃ ct, ct < 65536 ∧ M 0 16 = nI ct ∧ N 0 14 = nI ct) ∧ ∀ k, k ≤ 10 → N 2 k = M 15 k
def rOut (M N : cM) : Prop := ∃ PK, outC M PK ∧ outR N PK
def Rel (M : cM) (L : cL) (N : cM) (K : cL) : Prop := (∃ n, rTape M N n) ∧ rMap M L N K ∧ rOwn M L N K ∧ rLim M N ∧ rWay M N ∧ rCnt M N ∧ rOut M N
theorem Rel_th {M : cM} {L : cL} {N : cM} {K : cL} (v : Int32) (h : Rel M L N K) : Rel M L (mu N 0 0 v) K := h
/-! feed -/
theorem oc_sar0 (x : Int32) : oc (x >>> ((0 : Int32) &&& 31)) = u32 x / 1 % 256 := by
  have h := pk_shr x ((0 : Int32) &&& 31) 0 (by decide)
  have e1 : (x >>> ((0 : Int32) &&& 31)).toInt = (if 2 * u32 (x >>> ((0 : Int32) &&& 31)) < 4294967296 then (u32 (x >>> ((0 : Int32) &&& 31)) : Int) else (u32 (x >>> ((0 : Int32) &&& 31)) : Int) - 4294967296) := BitVec.toInt_eq_toNat_cond _
  have e2 : x.toInt = (if 2 * u32 x < 4294967296 then (u32 x : Int) else (u32 x : Int) - 4294967296) := BitVec.toInt_eq_toNat_cond _
  rw [Int.shiftRight_eq_div_pow] at h
  have a := u32_lt x
  have b := u32_lt (x >>> ((0 : Int32) &&& 31))
  show u32 (x >>> ((0 : Int32) &&& 31)) % 256 = u32 x / 1 % 256
  rw [e1, e2] at h
  have e3 : ((2 ^ 0 : Nat) : Int) = 1 := by decide
  rw [e3] at h
  split at h <;> split at h <;> omega
theorem oc_sar16 (x : Int32) : oc (x >>> ((16 : Int32) &&& 31)) = u32 x / 65536 % 256 := by
  have h := pk_shr x ((16 : Int32) &&& 31) 16 (by decide)
  have e1 : (x >>> ((16 : Int32) &&& 31)).toInt = (if 2 * u32 (x >>> ((16 : Int32) &&& 31)) < 4294967296 then (u32 (x >>> ((16 : Int32) &&& 31)) : Int) else (u32 (x >>> ((16 : Int32) &&& 31)) : Int) - 4294967296) := BitVec.toInt_eq_toNat_cond _
  have e2 : x.toInt = (if 2 * u32 x < 4294967296 then (u32 x : Int) else (u32 x : Int) - 4294967296) := BitVec.toInt_eq_toNat_cond _
  rw [Int.shiftRight_eq_div_pow] at h
  have a := u32_lt x
  have b := u32_lt (x >>> ((16 : Int32) &&& 31))
  show u32 (x >>> ((16 : Int32) &&& 31)) % 256 = u32 x / 65536 % 256
  rw [e1, e2] at h
  have e3 : ((2 ^ 16 : Nat) : Int) = 65536 := by decide
  rw [e3] at h
  split at h <;> split at h <;> omega
theorem oc_sar24 (x : Int32) : oc (x >>> ((24 : Int32) &&& 31)) = u32 x / 16777216 % 256 := by
  have h := pk_shr x ((24 : Int32) &&& 31) 24 (by decide)
  have e1 : (x >>> ((24 : Int32) &&& 31)).toInt = (if 2 * u32 (x >>> ((24 : Int32) &&& 31)) < 4294967296 then (u32 (x >>> ((24 : Int32) &&& 31)) : Int) else (u32 (x >>> ((24 : Int32) &&& 31)) : Int) - 4294967296) := BitVec.toInt_eq_toNat_cond _
  have e2 : x.toInt = (if 2 * u32 x < 4294967296 then (u32 x : Int) else (u32 x : Int) - 4294967296) := BitVec.toInt_eq_toNat_cond _
  rw [Int.shiftRight_eq_div_pow] at h
  have a := u32_lt x
  have b := u32_lt (x >>> ((24 : Int32) &&& 31))
  show u32 (x >>> ((24 : Int32) &&& 31)) % 256 = u32 x / 16777216 % 256
  rw [e1, e2] at h
  have e3 : ((2 ^ 24 : Nat) : Int) = 16777216 := by decide
  rw [e3] at h
  split at h <;> split at h <;> omega
/-- a row of the reference's tape is written and its length with it -/
def fd (M M' : cM) (a : Nat) (l : List Nat) : Prop := (∀ c, c ≠ 0 → c ≠ 1 → M' c = M c) ∧ (∀ j, j ≠ 2 → M' 0 j = M 0 j) ∧ M' 0 2 = nI (a + l.length) ∧ (∀ j, j < a ∨ a + l.length ≤ j → M' 1 j = M 1 j) ∧ holds (M' 1) a l
theorem fd_1 {M : cM} {a m : Nat} {v : Int32} (h2 : M 0 2 = nI a) (hv : oc v = m) : fd M (mu (mu M 1 a (vp_nar .byte (v.toInt8.toInt32))) 0 2 (nI a + (1 : Int32))) a [m] := by
  have w : wr M (mu M 1 a (vp_nar .byte (v.toInt8.toInt32))) 1 a [m] := wr_nar8 hv
  refine ⟨fun c h0 h1 => ?_, fun j hj => ?_, nI_1 a, fun j hj => w.2.1 j hj, w.2.2⟩
  · rw [mu_ne _ _ _ _ h0]; exact w.1 c h1
  · rw [mu_oth _ _ _ _ hj]; rfl
theorem fd_app {M M1 M2 : cM} {a b : Nat} {l m : List Nat} (h : fd M M1 a l) (h2 : fd M1 M2 b m) (e : b = a + l.length) : fd M M2 a (l ++ m) := by
  subst e
  refine ⟨fun c h0 h1 => (h2.1 c h0 h1).trans (h.1 c h0 h1), fun j hj => (h2.2.1 j hj).trans (h.2.1 j hj), ?_, fun j hj => ?_, holds_app.mpr ⟨holds_congr (fun j _ hj => h2.2.2.2.1 j (by omega)) h.2.2.2.2, h2.2.2.2.2⟩⟩
  · rw [h2.2.2.1, List.length_append, Nat.add_assoc]
  · rw [List.length_append] at hj
    rw [h2.2.2.2.1 j (by omega), h.2.2.2.1 j (by omega)]
def xk : Nat → Int32
  | 0 => 24
  | 1 => 16
  | 2 => 8
  | 3 => 0
  | _ => -8
theorem fd_0 (M : cM) (a : Nat) (h : M 0 2 = nI a) : fd M M a [] := ⟨fun _ _ _ => rfl, fun _ _ => rfl, h, fun _ _ => rfl, trivial⟩
theorem r_four {M : cM} {L : cL} {v : Int32} {Z : cM → Prop} (a : Nat) (h2 : M 0 2 = nI a) (ha : a + 4 ≤ 2400) (h : ∀ M', fd M M' a (bys 4 (u32 v)) → Z M') : wp_X7_four_0 M L v Z := by
  unfold wp_X7_four_0
  have eb := bys_4 (u32 v)
  rw [eb] at h
  refine ⟨fun x M2 => ∃ i, i ≤ 4 ∧ x = xk i ∧ fd M M2 a ([u32 v / 16777216 % 256, u32 v / 65536 % 256, u32 v / 256 % 256, u32 v % 256].take i), fun x _ => (x.toInt + 8).toNat, ⟨0, by decide, rfl, fd_0 _ _ h2⟩, ?_⟩
  rintro _ M2 ⟨i, hi, rfl, w⟩
  have stp : ∀ m (s : Int32), oc (v >>> s) = m → i < 4 → ([u32 v / 16777216 % 256, u32 v / 65536 % 256, u32 v / 256 % 256, u32 v % 256].take i).length = i → vp_in (M2 0 2) 2400 ∧ ∀ M4 : cM, M4 = mu M2 1 (M2 0 2).toNatClampNeg (vp_nar .byte ((v >>> s).toInt8.toInt32)) → ∀ M5 : cM, M5 = mu M4 0 2 ((M4 0 2) + (1 : Int32)) → fd M M5 a ([u32 v / 16777216 % 256, u32 v / 65536 % 256, u32 v / 256 % 256, u32 v % 256].take i ++ [m]) := by
    intro m s ho hi4 hl
    have e2 : M2 0 2 = nI (a + i) := by rw [w.2.2.1, hl]
    rw [e2]
    refine ⟨vp_in_nI (by omega) (by decide), ?_⟩
    rintro _ rfl _ rfl
    rw [nI_clamp (by omega), show mu M2 1 (a + i) (vp_nar .byte ((v >>> s).toInt8.toInt32)) 0 2 = nI (a + i) from e2]
    exact fd_app w (fd_1 e2 ho) (by rw [hl])
  have hi5 : i = 0 ∨ i = 1 ∨ i = 2 ∨ i = 3 ∨ i = 4 := by omega
  rcases hi5 with rfl | rfl | rfl | rfl | rfl
  · refine ⟨fun z => absurd z (by decide), fun _ => ?_⟩
    obtain ⟨q1, q2⟩ := stp _ ((24 : Int32) &&& 31) (oc_sar24 v) (by decide) rfl
    exact ⟨q1, fun M4 e4 M5 e5 x6 e6 => ⟨⟨1, by decide, e6, q2 M4 e4 M5 e5⟩, by dsimp only; rw [e6]; decide⟩⟩
  · refine ⟨fun z => absurd z (by decide), fun _ => ?_⟩
    obtain ⟨q1, q2⟩ := stp _ ((16 : Int32) &&& 31) (oc_sar16 v) (by decide) rfl
    exact ⟨q1, fun M4 e4 M5 e5 x6 e6 => ⟨⟨2, by decide, e6, q2 M4 e4 M5 e5⟩, by dsimp only; rw [e6]; decide⟩⟩
  · refine ⟨fun z => absurd z (by decide), fun _ => ?_⟩
    obtain ⟨q1, q2⟩ := stp _ ((8 : Int32) &&& 31) (oc_sar8 v) (by decide) rfl
    exact ⟨q1, fun M4 e4 M5 e5 x6 e6 => ⟨⟨3, by decide, e6, q2 M4 e4 M5 e5⟩, by dsimp only; rw [e6]; decide⟩⟩
  · refine ⟨fun z => absurd z (by decide), fun _ => ?_⟩
    obtain ⟨q1, q2⟩ := stp (u32 v % 256) ((0 : Int32) &&& 31) (by rw [oc_sar0, Nat.div_one]) (by decide) rfl
    exact ⟨q1, fun M4 e4 M5 e5 x6 e6 => ⟨⟨4, by decide, e6, q2 M4 e4 M5 e5⟩, by dsimp only; rw [e6]; decide⟩⟩
  · exact ⟨fun _ => h M2 w, fun z => absurd (by decide) z⟩
def f5 (p1 p2 p3 p4 p5 : Int32) : List Nat := bys 4 (u32 p1) ++ bys 4 (u32 p2) ++ bys 4 (u32 p3) ++ bys 4 (u32 p4) ++ bys 4 (u32 p5)
theorem f5_len (p1 p2 p3 p4 p5 : Int32) : (f5 p1 p2 p3 p4 p5).length = 20 := by simp [f5, bys_len]
theorem c_feed {M : cM} {L : cL} {p1 p2 p3 p4 p5 : Int32} {Z : Int32 → cM → Prop} {X : Prop} (n : Nat) (hn : n ≤ 2400) (h1 : M 1 1 = nI n) (hX : 2400 < n + 20 → X) (h : n + 20 ≤ 2400 → ∀ M', wr M M' 2 n (f5 p1 p2 p3 p4 p5) → Z (nI (n + 20)) (mu M' 1 1 (nI (n + 20)))) : wp_X6_feed_0 M L p1 p2 p3 p4 p5 Z X := by
  unfold wp_X6_feed_0
  rw [h1]
  rintro _ rfl
  refine ql (n + 20) _ (fun c => ?_) (fun c => hX c) (nI_add _ 20) (by omega) (by omega)
  refine p_put_1 n 4 (u32 p1) (hv_i4 _) (fun M3 w3 => ?_) (by omega) (by omega) rfl rfl
  refine p_put_1 (n + 4) 4 (u32 p2) (hv_i4 _) (fun M4 w4 => ?_) (by omega) (by omega) (nI_add _ 4) rfl
  have v4 := wr_app w3 w4 (by simp [bys_len])
  refine p_put_1 (n + 8) 4 (u32 p3) (hv_i4 _) (fun M5 w5 => ?_) (by omega) (by omega) (nI_add _ 8) rfl
  have v5 := wr_app v4 w5 (by simp [bys_len])
  refine p_put_1 (n + 12) 4 (u32 p4) (hv_i4 _) (fun M6 w6 => ?_) (by omega) (by omega) (nI_add _ 12) rfl
  have v6 := wr_app v5 w6 (by simp [bys_len])
  refine p_put_1 (n + 16) 4 (u32 p5) (hv_i4 _) (fun M7 w7 => ?_) (by omega) (by omega) (nI_add _ 16) rfl
  have v7 := wr_app v6 w7 (by simp [bys_len])
  rw [show nI n + (20 : Int32) = nI (n + 20) from nI_add _ 20]
  rintro _ rfl
  exact h c M7 v7
theorem d_feed {M : cM} {L : cL} {p1 p2 p3 p4 p5 : Int32} {Z : Int32 → cM → Prop} (n : Nat) (hn : n ≤ 2400) (h2 : M 0 2 = nI n) (hX : 2400 < n + 20 → Z 0 (mu M 0 0 1)) (h : n + 20 ≤ 2400 → ∀ M', fd (mu M 0 0 0) M' n (f5 p1 p2 p3 p4 p5) → Z (nI (n + 20)) M') : wp_X7_feed_0 M L p1 p2 p3 p4 p5 Z := by
  unfold wp_X7_feed_0
  rw [h2]
  by_cases c : n + 20 ≤ 2400
  · refine ⟨fun v => v = 0, ?_, ?_⟩
    · rintro _ rfl
      rintro _ rfl
      refine ⟨fun _ => ?_, fun z => absurd (show (0 : Int32) ≤ 0 by decide) z⟩
      refine r_four n h2 (by omega) (fun M4 w4 => ?_)
      refine r_four (n + 4) (by rw [w4.2.2.1, bys_len]) (by omega) (fun M5 w5 => ?_)
      have v5 := fd_app w4 w5 (by rw [bys_len])
      refine r_four (n + 8) (by rw [v5.2.2.1]; simp [bys_len]) (by omega) (fun M6 w6 => ?_)
      have v6 := fd_app v5 w6 (by simp [bys_len])
      refine r_four (n + 12) (by rw [v6.2.2.1]; simp [bys_len]) (by omega) (fun M7 w7 => ?_)
      have v7 := fd_app v6 w7 (by simp [bys_len])
      refine r_four (n + 16) (by rw [v7.2.2.1]; simp [bys_len]) (by omega) (fun M8 w8 => ?_)
      have v8 : fd (mu M 0 0 0) M8 n (f5 p1 p2 p3 p4 p5) := fd_app v7 w8 (by simp [bys_len])
      rw [v8.2.2.1, f5_len]
      exact h c M8 v8
    · exact ql (n + 20) _ (fun _ => rfl) (fun z => by omega) (nI_add _ 20) (by omega) (by omega)
  · refine ⟨fun v => v = 1, ?_, ?_⟩
    · rintro _ rfl
      rintro _ rfl
      exact ⟨fun z => absurd (show (1 : Int32) ≤ 0 from z) (by decide), fun _ => hX (by omega)⟩
    · exact ql (n + 20) _ (fun z => by omega) (fun _ => rfl) (nI_add _ 20) (by omega) (by omega)
theorem tape_same {M M' N N' : cM} {a : Nat} {l : List Nat} (h : N 1 = M 2) (hB : ∀ j, isBy (M 2 j)) (w : wr M M' 2 a l) (w1 : ∀ j, j < a ∨ a + l.length ≤ j → N' 1 j = N 1 j) (w2 : holds (N' 1) a l) : N' 1 = M' 2 ∧ ∀ j, isBy (M' 2 j) := by
  refine ⟨?_, ?_⟩
  · funext j
    by_cases c : j < a ∨ a + l.length ≤ j
    · rw [w1 j c, w.2.1 j c, h]
    · have q1 := holds_at w.2.2 (k := j - a) (by omega)
      have q2 := holds_at w2 (k := j - a) (by omega)
      rw [show a + (j - a) = j by omega] at q1 q2
      exact isBy_eq q2.1 q1.1 (by rw [q1.2, q2.2])
  · intro j
    by_cases c : j < a ∨ a + l.length ≤ j
    · rw [w.2.1 j c]; exact hB j
    · have q1 := holds_at w.2.2 (k := j - a) (by omega)
      rw [show a + (j - a) = j by omega] at q1
      exact q1.1
/-! the law's comparison -/
theorem tail_ok {r1 r7 r5 : Int32} {f4 : Nat → Int64} {P : Prop} (h1 : r7 = r1) (h2 : r1 = 0 → f4 (0 : Int32).toNatClampNeg = r5.toInt64) (hP : P) : ((r7 = r1 → (∃ K : Prop, (K → P) ∧ ((¬ r1 = 0 → K) ∧ (r1 = 0 → ((lg_cmp (f4 (0 : Int32).toNatClampNeg) (r5.toInt64) = 0 → K) ∧ (¬ lg_cmp (f4 (0 : Int32).toNatClampNeg) (r5.toInt64) = 0 → False)))))) ∧ (¬ r7 = r1 → False)) := by
  refine ⟨fun _ => ⟨True, fun _ => hP, fun _ => trivial, fun z => ⟨fun _ => trivial, fun y => y ?_⟩⟩, fun z => z h1⟩
  rw [lg_cmp_eq]
  exact h2 z
theorem upd_0 (f : Nat → Int64) (x : Int64) : vp_updL f 0 x (0 : Int32).toNatClampNeg = x := by
  rw [show (0 : Int32).toNatClampNeg = 0 from by decide]; exact pk_uLs
/-! prefixes -/
theorem bits_0 (x m : Nat) : (∀ s, s < m → x / 2 ^ s % 2 = 0) ↔ x % 2 ^ m = 0 := by
  induction m with
  | zero => simp [Nat.mod_one]
  | succ m ih =>
    rw [Nat.mod_pow_succ]
    refine ⟨fun h => ?_, fun h s hs => ?_⟩
    · rw [ih.mp (fun s hs => h s (by omega)), h m (by omega)]; simp
    · have h1 : x % 2 ^ m = 0 := by omega
      have h2 : 2 ^ m * (x / 2 ^ m % 2) = 0 := by omega
      by_cases c : s = m
      · subst c
        have hp : 0 < 2 ^ s := Nat.pow_pos (by decide)
        rcases Nat.mul_eq_zero.mp h2 with z | z
        · omega
        · exact z
      · exact ih.mpr h1 s (by omega)
def gp (h l : Int64) (b : Nat) : Prop := ∀ k, k < 128 → bitN h l k = 0 ∨ (k < b ∧ (k < 64 ∨ 71 < k))
def bOk (b : Nat) : Prop := b = 32 ∨ b = 40 ∨ b = 48 ∨ b = 56 ∨ b = 64 ∨ b = 96
theorem gp_pfx {h l : Int64} {b : Nat} (hb : bOk b) : gp h l b ↔ pfx h l b := by
  unfold bOk at hb
  by_cases c : b = 96
  · subst c
    refine ⟨fun hg => Or.inr ⟨rfl, ?_, ?_⟩, fun hp => ?_⟩
    · have : uN l / 2 ^ 56 % 2 ^ 8 = 0 := (bits_0 _ 8).mp (fun s hs => by
        have := hg (71 - s) (by omega)
        rcases this with z | z
        · unfold bitN at z
          rw [if_neg (by omega), show 127 - (71 - s) = 56 + s by omega] at z
          rw [div_pw]; exact z
        · omega)
      have hl := uN_lt l
      have : uN l / 2 ^ 56 < 2 ^ 8 := by omega
      omega
    · exact (bits_0 _ 32).mp (fun s hs => by
        have := hg (127 - s) (by omega)
        rcases this with z | z
        · unfold bitN at z
          rw [if_neg (by omega), show 127 - (127 - s) = s by omega] at z
          exact z
        · omega)
    · rcases hp with z | ⟨_, h1, h2⟩
      · omega
      · intro k hk
        by_cases c1 : k < 64
        · exact Or.inr ⟨by omega, Or.inl c1⟩
        by_cases c2 : k ≤ 71
        · left
          unfold bitN
          rw [if_neg c1, show 127 - k = 56 + (71 - k) by omega, ← div_pw, h1]
          simp
        by_cases c3 : k < 96
        · exact Or.inr ⟨c3, Or.inr (by omega)⟩
        · left
          unfold bitN
          rw [if_neg c1]
          exact (bits_0 _ 32).mpr h2 _ (by omega)
  · have hb2 : 32 ≤ b ∧ b ≤ 64 ∧ b % 8 = 0 := by omega
    refine ⟨fun hg => Or.inl ⟨hb2.1, hb2.2.1, hb2.2.2, ?_, ?_⟩, fun hp => ?_⟩
    · apply uN_inj
      have : uN l % 2 ^ 64 = 0 := (bits_0 _ 64).mp (fun s hs => by
        have := hg (127 - s) (by omega)
        rcases this with z | z
        · unfold bitN at z
          rw [if_neg (by omega), show 127 - (127 - s) = s by omega] at z
          exact z
        · omega)
      have hl := uN_lt l
      rw [show uN (0 : Int64) = 0 from by decide]
      omega
    · exact (bits_0 _ (64 - b)).mp (fun s hs => by
        have := hg (63 - s) (by omega)
        rcases this with z | z
        · unfold bitN at z
          rw [if_pos (by omega), show 63 - (63 - s) = s by omega] at z
          exact z
        · omega)
    · rcases hp with ⟨_, _, _, h1, h2⟩ | ⟨z, _⟩
      · intro k hk
        by_cases c1 : k < b
        · exact Or.inr ⟨c1, Or.inl (by omega)⟩
        · left
          unfold bitN
          by_cases c2 : k < 64
          · rw [if_pos c2]
            exact (bits_0 _ (64 - b)).mpr h2 _ (by omega)
          · rw [if_neg c2, h1, show uN (0 : Int64) = 0 from by decide, Nat.zero_div]
      · exact absurd z c
theorem shl_0 (x : Int64) {B : Nat} (hB : B ≤ 63) : (x <<< ((nI B).toInt64 &&& 63) = 0) ↔ uN x % 2 ^ (64 - B) = 0 := by
  rw [← lN_uN x, wb_shl _ (by omega)]
  have hl := uN_lt x
  generalize uN x = n at hl
  rw [uN_lN, Nat.mod_eq_of_lt hl]
  have e : n * 2 ^ B % 18446744073709551616 = n % 2 ^ (64 - B) * 2 ^ B := by
    rw [show (18446744073709551616 : Nat) = 2 ^ (64 - B) * 2 ^ B from by rw [← Nat.pow_add, show 64 - B + B = 64 by omega], Nat.mul_mod_mul_right]
  have hp : 0 < 2 ^ B := Nat.pow_pos (by decide)
  refine ⟨fun z => ?_, fun z => ?_⟩
  · have q := congrArg uN z
    rw [uN_lN, e, show uN (0 : Int64) = 0 from by decide] at q
    rcases Nat.mul_eq_zero.mp q with w | w
    · exact w
    · omega
  · apply uN_inj
    rw [uN_lN, e, z, Nat.zero_mul]; decide
theorem p_canBe {M : cM} {L : cL} {h l : Int64} {x : Int32} {Z : Int32 → Prop} (h1 : ∀ B, bOk B → x = nI B → pfx h l B → Z 1) (h0 : (∀ B, bOk B → x = nI B → ¬ pfx h l B) → Z 0) : wp_X1_canBePrefix M L h l x Z := by
  unfold wp_X1_canBePrefix
  have key : ∀ B, bOk B → x = nI B → (∀ B', bOk B' → x = nI B' → B' = B) := by
    intro B hB hx B' hB' hx'
    unfold bOk at hB hB'
    have := (nI_eq (a := B') (b := B) (by omega) (by omega)).mp (hx'.symm.trans hx)
    exact this
  have four : ∀ B, bOk B → B ≤ 63 → x = nI B → ((¬ (lg_cmp l (0 : Int64)) = 0 → Z (0 : Int32)) ∧ ((lg_cmp l (0 : Int64)) = 0 → ((¬ (lg_cmp (h <<< (x.toInt64 &&& 63)) (0 : Int64)) = 0 → Z (0 : Int32)) ∧ ((lg_cmp (h <<< (x.toInt64 &&& 63)) (0 : Int64)) = 0 → Z (1 : Int32))))) := by
    intro B hB hl hx
    have hB2 := hB
    unfold bOk at hB2
    rw [lg_cmp_eq, lg_cmp_eq, hx, shl_0 h hl]
    refine ⟨fun z => h0 (fun B' hB' hx' hp => ?_), fun z => ⟨fun y => h0 (fun B' hB' hx' hp => ?_), fun y => h1 B hB hx (Or.inl ⟨by omega, by omega, by omega, z, y⟩)⟩⟩
    · have := key B hB hx B' hB' hx'
      subst this
      rcases hp with hp | hp
      · exact z hp.2.2.2.1
      · have := hp.1; omega
    · have := key B hB hx B' hB' hx'
      subst this
      rcases hp with hp | hp
      · exact y hp.2.2.2.2
      · have := hp.1; omega
  refine ⟨fun c => four 32 (by unfold bOk; omega) (by decide) c, fun c32 => ⟨fun c => four 40 (by unfold bOk; omega) (by decide) c, fun c40 => ⟨fun c => four 48 (by unfold bOk; omega) (by decide) c, fun c48 => ⟨fun c => four 56 (by unfold bOk; omega) (by decide) c, fun c56 => ⟨fun c => ?_, fun c64 => ⟨fun c => ?_, fun c96 => ?_⟩⟩⟩⟩⟩⟩
  · have hB : bOk 64 := by unfold bOk; omega
    rw [lg_cmp_eq]
    refine ⟨fun z => h0 (fun B' hB' hx' hp => ?_), fun z => h1 64 hB c (Or.inl ⟨by omega, by omega, by omega, z, by rw [show 64 - 64 = 0 from rfl, Nat.pow_zero, Nat.mod_one]⟩)⟩
    have := key 64 hB c B' hB' hx'
    subst this
    rcases hp with hp | hp
    · exact z hp.2.2.2.1
    · have := hp.1; omega
  · have hB : bOk 96 := by unfold bOk; omega
    have e1 : ((l.toUInt64 >>> ((56 : Int32).toInt64.toUInt64 &&& Int64.toUInt64 63)).toInt64 = 0) ↔ uN l / 2 ^ 56 = 0 := by
      refine ⟨fun z => ?_, fun z => ?_⟩
      · have q := congrArg uN z
        rw [show uN ((l.toUInt64 >>> ((56 : Int32).toInt64.toUInt64 &&& Int64.toUInt64 63)).toInt64) = uN l / 2 ^ 56 from uN_sk l (k := 56) (by decide)] at q
        exact q.trans (by decide)
      · apply uN_inj
        rw [show uN ((l.toUInt64 >>> ((56 : Int32).toInt64.toUInt64 &&& Int64.toUInt64 63)).toInt64) = uN l / 2 ^ 56 from uN_sk l (k := 56) (by decide), z]; decide
    have e2 : (l &&& (4294967295 : Int64) = 0) ↔ uN l % 2 ^ 32 = 0 := by
      refine ⟨fun z => ?_, fun z => ?_⟩
      · have q := congrArg uN z
        rw [uN_lo] at q
        exact q.trans (by decide)
      · apply uN_inj
        rw [uN_lo]
        exact (show uN l % 4294967296 = 0 from z).trans (by decide)
    rw [lg_cmp_eq, lg_cmp_eq, e1, e2]
    refine ⟨fun z => h0 (fun B' hB' hx' hp => ?_), fun z => ⟨fun y => h0 (fun B' hB' hx' hp => ?_), fun y => h1 96 hB c (Or.inr ⟨rfl, z, y⟩)⟩⟩
    · have := key 96 hB c B' hB' hx'
      subst this
      rcases hp with hp | hp
      · have := hp.2.1; omega
      · exact z hp.2.1
    · have := key 96 hB c B' hB' hx'
      subst this
      rcases hp with hp | hp
      · have := hp.2.1; omega
      · exact y hp.2.2
  · refine h0 (fun B' hB' hx' hp => ?_)
    unfold bOk at hB'
    rcases hB' with rfl | rfl | rfl | rfl | rfl | rfl
    · exact c32 hx'
    · exact c40 hx'
    · exact c48 hx'
    · exact c56 hx'
    · exact c64 hx'
    · exact c96 hx'
theorem d_prefix {M : cM} {L : cL} {h l : Int64} {x : Int32} {Z : cM → cL → Prop} (h1 : ∀ B, bOk B → x = nI B → pfx h l B → Z (mu (mu M 0 0 0) 0 5 x) (ml (ml L 0 3 h) 0 4 l)) (h0 : (∀ B, bOk B → x = nI B → ¬ pfx h l B) → Z (mu M 0 0 1) L) : wp_X7_prefix_0 M L h l x Z := by
  unfold wp_X7_prefix_0
  -- the end of it, for a good one and for another
  have good : ∀ B, bOk B → x = nI B → pfx h l B → ∃ K120 : Int32 → Prop, (∀ (v4 : Int32), K120 v4 →
 ∀ M5 : cM, M5 = mu M 0 0 v4 →
 ((¬ (1 : Int32) = 0 →
 ∀ L7 : cL, L7 = ml L 0 3 h →
 ∀ L8 : cL, L8 = ml L7 0 4 l →
 ∀ M9 : cM, M9 = mu M5 0 5 x →
 Z M9 L8) ∧
 ((1 : Int32) = 0 →
 Z M5 L))) ∧
 (((1 : Int32) = 0 →
 K120 (1 : Int32)) ∧
 (¬ (1 : Int32) = 0 →
 K120 (0 : Int32))) := by
    intro B hB hx hp
    refine ⟨fun v => v = 0, ?_, fun z => absurd z (by decide), fun _ => rfl⟩
    rintro _ rfl
    rintro _ rfl
    refine ⟨fun _ => ?_, fun z => absurd z (by decide)⟩
    rintro _ rfl _ rfl _ rfl
    exact h1 B hB hx hp
  have bad : (∀ B, bOk B → x = nI B → ¬ pfx h l B) → ∃ K120 : Int32 → Prop, (∀ (v4 : Int32), K120 v4 →
 ∀ M5 : cM, M5 = mu M 0 0 v4 →
 ((¬ (0 : Int32) = 0 →
 ∀ L7 : cL, L7 = ml L 0 3 h →
 ∀ L8 : cL, L8 = ml L7 0 4 l →
 ∀ M9 : cM, M9 = mu M5 0 5 x →
 Z M9 L8) ∧
 ((0 : Int32) = 0 →
 Z M5 L))) ∧
 (((0 : Int32) = 0 →
 K120 (1 : Int32)) ∧
 (¬ (0 : Int32) = 0 →
 K120 (0 : Int32))) := by
    intro hn
    refine ⟨fun v => v = 1, ?_, fun _ => rfl, fun z => absurd rfl z⟩
    rintro _ rfl
    rintro _ rfl
    exact ⟨fun z => absurd rfl z, fun _ => h0 hn⟩
  by_cases hx : ∃ B, bOk B ∧ x = nI B
  · obtain ⟨B, hB, rfl⟩ := hx
    have hB2 := hB
    unfold bOk at hB2
    refine ⟨fun v => v = 1, ?_, ?_⟩
    · rintro _ rfl
      refine ⟨fun y z => ∃ k, k ≤ 128 ∧ z = nI k ∧ ((y = 1 ∧ ∀ i, i < k → bitN h l i = 0 ∨ (i < B ∧ (i < 64 ∨ 71 < i))) ∨ (y = 0 ∧ ¬ gp h l B)), fun _ z => 200 - z.toNatClampNeg, ⟨0, by omega, rfl, Or.inl ⟨rfl, fun i hi => absurd hi (Nat.not_lt_zero _)⟩⟩, ?_⟩
      rintro y _ ⟨k, hk, rfl, hy⟩
      rcases hy with ⟨rfl, hy⟩ | ⟨rfl, hy⟩
      · by_cases ck : k = 128
        · refine ⟨True, fun _ => ?_, ?_⟩
          · subst ck
            exact good B hB rfl ((gp_pfx hB).mp hy)
          · refine ⟨fun z => absurd z (by decide), fun _ => ?_⟩
            exact qg k _ (fun _ => trivial) (fun z => by omega) rfl (by omega) (by omega)
        · refine ⟨False, False.elim, ?_⟩
          refine ⟨fun z => absurd z (by decide), fun _ => ?_⟩
          refine qg k _ (fun z => by omega) (fun _ => ?_) rfl (by omega) (by omega)
          refine r_bit k ?_ (by omega) rfl
          have hbl := bitN_lt h l k
          have nxt : ∀ (v : Int32), ((v = 1 ∧ (bitN h l k = 0 ∨ (k < B ∧ (k < 64 ∨ 71 < k)))) ∨ (v = 0 ∧ ¬ (bitN h l k = 0 ∨ (k < B ∧ (k < 64 ∨ 71 < k))))) → ∀ x15 : Int32, x15 = nI k + (1 : Int32) → (∃ k', k' ≤ 128 ∧ x15 = nI k' ∧ ((v = 1 ∧ ∀ i, i < k' → bitN h l i = 0 ∨ (i < B ∧ (i < 64 ∨ 71 < i))) ∨ (v = 0 ∧ ¬ gp h l B))) ∧ 200 - x15.toNatClampNeg < 200 - (nI k).toNatClampNeg := by
            intro v hv x15 ex
            rw [nI_1] at ex
            subst ex
            refine ⟨⟨k + 1, by omega, rfl, ?_⟩, by rw [nI_clamp (by omega), nI_clamp (by omega)]; omega⟩
            rcases hv with ⟨rfl, hv⟩ | ⟨rfl, hv⟩
            · refine Or.inl ⟨rfl, fun i hi => ?_⟩
              by_cases ci : i = k
              · rw [ci]; exact hv
              · exact hy i (by omega)
            · exact Or.inr ⟨rfl, fun hg => hv (hg k (by omega))⟩
          by_cases cv : bitN h l k = 0 ∨ (k < B ∧ (k < 64 ∨ 71 < k))
          · refine ⟨fun v => v = 1, fun v hv => nxt v (Or.inl ⟨hv, cv⟩), ?_⟩
            refine ⟨True, fun _ => rfl, ?_⟩
            refine qe (bitN h l k) _ (fun _ => trivial) (fun c1 => ?_) rfl (by omega) (by omega)
            have cv2 := cv.resolve_left c1
            refine ⟨False, False.elim, ?_⟩
            refine pk_le B k (fun z => by omega) (fun _ => ?_) rfl rfl (by omega) (by omega)
            refine qs k _ (fun _ => trivial) (fun c2 => ?_) rfl (by omega) (by omega)
            exact ql k _ (fun z => by omega) (fun _ => trivial) rfl (by omega) (by omega)
          · refine ⟨fun v => v = 0, fun v hv => nxt v (Or.inr ⟨hv, cv⟩), ?_⟩
            refine ⟨False, False.elim, ?_⟩
            refine qe (bitN h l k) _ (fun z => cv (Or.inl z)) (fun c1 => ?_) rfl (by omega) (by omega)
            refine ⟨True, fun _ => rfl, ?_⟩
            refine pk_le B k (fun _ => trivial) (fun c2 => ?_) rfl rfl (by omega) (by omega)
            refine qs k _ (fun z => cv (Or.inr ⟨c2, Or.inl z⟩)) (fun c3 => ?_) rfl (by omega) (by omega)
            exact ql k _ (fun _ => trivial) (fun z => cv (Or.inr ⟨c2, Or.inr z⟩)) rfl (by omega) (by omega)
      · refine ⟨True, fun _ => bad (fun B' hB' hx' hp => ?_), fun _ => trivial, fun z => absurd rfl z⟩
        unfold bOk at hB'
        have e : B' = B := ((nI_eq (a := B') (b := B) (by omega) (by omega)).mp hx'.symm)
        subst e
        exact hy ((gp_pfx hB).mpr hp)
    · refine ⟨True, fun _ => rfl, ?_⟩
      refine qe B _ (fun _ => trivial) (fun n1 => ?_) rfl (by omega) (by omega)
      refine qe B _ (fun _ => trivial) (fun n2 => ?_) rfl (by omega) (by omega)
      refine qe B _ (fun _ => trivial) (fun n3 => ?_) rfl (by omega) (by omega)
      refine qe B _ (fun _ => trivial) (fun n4 => ?_) rfl (by omega) (by omega)
      refine qe B _ (fun _ => trivial) (fun n5 => ?_) rfl (by omega) (by omega)
      exact qen B _ (fun _ => trivial) (fun n6 => by omega) rfl (by omega) (by omega)
  · have hn : ∀ B, bOk B → x = nI B → ¬ pfx h l B := fun B hB e => absurd ⟨B, hB, e⟩ hx
    have nb : ∀ B, bOk B → ¬ x = nI B := fun B hB e => hx ⟨B, hB, e⟩
    refine ⟨fun v => v = 0, ?_, ?_⟩
    · rintro _ rfl
      refine ⟨fun y z => y = 0, fun _ _ => 0, rfl, ?_⟩
      rintro _ z rfl
      exact ⟨True, fun _ => bad hn, fun _ => trivial, fun z => absurd rfl z⟩
    · refine ⟨False, False.elim, ?_⟩
      refine ⟨nb 32 (by unfold bOk; omega), fun _ => ⟨nb 40 (by unfold bOk; omega), fun _ => ⟨nb 48 (by unfold bOk; omega), fun _ => ⟨nb 56 (by unfold bOk; omega), fun _ => ⟨nb 64 (by unfold bOk; omega), fun _ => ⟨fun _ => rfl, nb 96 (by unfold bOk; omega)⟩⟩⟩⟩⟩⟩
