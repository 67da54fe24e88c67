/-- the prefix is the well known one -/
def wk (H Lo : Int64) (B : Nat) : Prop := H = 28428538856079360 ∧ Lo = 0 ∧ B = 96
def okA (H Lo : Int64) (B n : Nat) : Prop := n / 16777216 ≠ 0 ∧ n / 16777216 ≠ 127 ∧ n / 16777216 < 224 ∧ n / 65536 ≠ 43518 ∧ ¬ (wk H Lo B ∧ (n / 16777216 = 10 ∨ n / 1048576 = 2753 ∨ n / 65536 = 49320))
theorem okA_n {H Lo : Int64} {B n : Nat} (h : n / 16777216 = 0 ∨ n / 16777216 = 127 ∨ 224 ≤ n / 16777216 ∨ n / 65536 = 43518) : ¬ okA H Lo B n := fun z => by
  have z1 := z.1
  have z2 := z.2.1
  have z3 := z.2.2.1
  have z4 := z.2.2.2.1
  omega
theorem u_24 {n : Nat} (hn : n < 2 ^ 32) : ((nI n).toUInt32 >>> ((24 : Int32).toUInt32 &&& Int32.toUInt32 31)).toInt32 = nI (n / 16777216) := pk_ushrN hn 24 24 (by decide)
theorem u_16 {n : Nat} (hn : n < 2 ^ 32) : ((nI n).toUInt32 >>> ((16 : Int32).toUInt32 &&& Int32.toUInt32 31)).toInt32 = nI (n / 65536) := pk_ushrN hn 16 16 (by decide)
theorem u_20 {n : Nat} (hn : n < 2 ^ 32) : ((nI n).toUInt32 >>> ((20 : Int32).toUInt32 &&& Int32.toUInt32 31)).toInt32 = nI (n / 1048576) := pk_ushrN hn 20 20 (by decide)
theorem p_mappable {M : cM} {L : cL} {x : Int32} {Z : Int32 → Prop} (H Lo : Int64) (B n : Nat) (h : Z (bI (okA H Lo B n))) (hn : n < 2 ^ 32) (hB : B < 100) (h0 : L 10 0 = H) (h1 : L 10 1 = Lo) (h2 : M 10 2 = nI B) (hx : x = nI n) : wp_X1_mappable_10 M L x Z := by
  subst hx
  unfold wp_X1_mappable_10
  rw [u_24 hn, u_16 hn, u_20 hn, h0, h1, h2, lg_cmp_eq, lg_cmp_eq]
  rintro x1 rfl
  repeat' first
    | exact zf h (okA_n (by omega))
    | refine bz (fun c => ?_) (fun c => ?_)
    | refine zb (fun c => ?_) (fun c => ?_)
    | refine qe _ _ (fun c => ?_) (fun c => ?_) (by first | rfl | assumption) (by omega) (by omega)
    | refine qen _ _ (fun c => ?_) (fun c => ?_) (by first | rfl | assumption) (by omega) (by omega)
    | refine ql _ _ (fun c => ?_) (fun c => ?_) (by first | rfl | assumption) (by omega) (by omega)
    | refine qln _ _ (fun c => ?_) (fun c => ?_) (by first | rfl | assumption) (by omega) (by omega)
    | refine qg _ _ (fun c => ?_) (fun c => ?_) (by first | rfl | assumption) (by omega) (by omega)
    | refine qgn _ _ (fun c => ?_) (fun c => ?_) (by first | rfl | assumption) (by omega) (by omega)
    | refine qs _ _ (fun c => ?_) (fun c => ?_) (by first | rfl | assumption) (by omega) (by omega)
    | refine qsn _ _ (fun c => ?_) (fun c => ?_) (by first | rfl | assumption) (by omega) (by omega)
    | refine qb _ _ (fun c => ?_) (fun c => ?_) (by first | rfl | assumption) (by omega) (by omega)
    | refine qbn _ _ (fun c => ?_) (fun c => ?_) (by first | rfl | assumption) (by omega) (by omega)
    | refine pk_eq _ _ (fun c => ?_) (fun c => ?_) (by first | rfl | assumption) (by first | rfl | assumption) (by omega) (by omega)
    | refine pn_eq _ _ (fun c => ?_) (fun c => ?_) (by first | rfl | assumption) (by first | rfl | assumption) (by omega) (by omega)
    | refine pk_le _ _ (fun c => ?_) (fun c => ?_) (by first | rfl | assumption) (by first | rfl | assumption) (by omega) (by omega)
    | refine pn_le _ _ (fun c => ?_) (fun c => ?_) (by first | rfl | assumption) (by first | rfl | assumption) (by omega) (by omega)
    | refine pk_lt _ _ (fun c => ?_) (fun c => ?_) (by first | rfl | assumption) (by first | rfl | assumption) (by omega) (by omega)
    | refine pn_lt _ _ (fun c => ?_) (fun c => ?_) (by first | rfl | assumption) (by first | rfl | assumption) (by omega) (by omega)
    | refine And.intro (fun c => absurd c (by decide)) (fun _ => ?_)
    | refine And.intro (fun _ => ?_) (fun c => absurd rfl c)
    | refine And.intro (fun c => absurd rfl c) (fun _ => ?_)
    | refine And.intro (fun _ => ?_) (fun c => absurd c (by decide))
  refine ⟨fun v => v = bI (wk H Lo B), ?_, ?_⟩
  · rintro v rfl
    refine ⟨fun v => v = bI (n / 16777216 = 10 ∨ n / 1048576 = 2753 ∨ n / 65536 = 49320), ?_, ?_⟩
    · rintro v rfl
      refine bz (fun c => zt h ⟨by omega, by omega, by omega, by omega, fun z => c z.1⟩) (fun c => zb (fun c2 => zt h ⟨by omega, by omega, by omega, by omega, fun z => c2 z.2⟩) (fun c2 => zf h (fun z => z.2.2.2.2 ⟨c, c2⟩)))
    · repeat' first
        | exact (bI_t (by omega)).symm
        | exact (bI_f (by omega)).symm
        | refine bz (fun c => ?_) (fun c => ?_)
        | refine zb (fun c => ?_) (fun c => ?_)
        | refine qe _ _ (fun c => ?_) (fun c => ?_) (by first | rfl | assumption) (by omega) (by omega)
        | refine qen _ _ (fun c => ?_) (fun c => ?_) (by first | rfl | assumption) (by omega) (by omega)
        | refine ql _ _ (fun c => ?_) (fun c => ?_) (by first | rfl | assumption) (by omega) (by omega)
        | refine qln _ _ (fun c => ?_) (fun c => ?_) (by first | rfl | assumption) (by omega) (by omega)
        | refine qg _ _ (fun c => ?_) (fun c => ?_) (by first | rfl | assumption) (by omega) (by omega)
        | refine qgn _ _ (fun c => ?_) (fun c => ?_) (by first | rfl | assumption) (by omega) (by omega)
        | refine qs _ _ (fun c => ?_) (fun c => ?_) (by first | rfl | assumption) (by omega) (by omega)
        | refine qsn _ _ (fun c => ?_) (fun c => ?_) (by first | rfl | assumption) (by omega) (by omega)
        | refine qb _ _ (fun c => ?_) (fun c => ?_) (by first | rfl | assumption) (by omega) (by omega)
        | refine qbn _ _ (fun c => ?_) (fun c => ?_) (by first | rfl | assumption) (by omega) (by omega)
        | refine pk_eq _ _ (fun c => ?_) (fun c => ?_) (by first | rfl | assumption) (by first | rfl | assumption) (by omega) (by omega)
        | refine pn_eq _ _ (fun c => ?_) (fun c => ?_) (by first | rfl | assumption) (by first | rfl | assumption) (by omega) (by omega)
        | refine pk_le _ _ (fun c => ?_) (fun c => ?_) (by first | rfl | assumption) (by first | rfl | assumption) (by omega) (by omega)
        | refine pn_le _ _ (fun c => ?_) (fun c => ?_) (by first | rfl | assumption) (by first | rfl | assumption) (by omega) (by omega)
        | refine pk_lt _ _ (fun c => ?_) (fun c => ?_) (by first | rfl | assumption) (by first | rfl | assumption) (by omega) (by omega)
        | refine pn_lt _ _ (fun c => ?_) (fun c => ?_) (by first | rfl | assumption) (by first | rfl | assumption) (by omega) (by omega)
        | refine And.intro (fun c => absurd c (by decide)) (fun _ => ?_)
        | refine And.intro (fun _ => ?_) (fun c => absurd rfl c)
        | refine And.intro (fun c => absurd rfl c) (fun _ => ?_)
        | refine And.intro (fun _ => ?_) (fun c => absurd c (by decide))
        | refine Exists.intro _ (And.intro (fun hv => hv) ?_)
  · refine ⟨_, fun hv => hv, ?_⟩
    refine ⟨fun c => (bI_f (fun z => c z.1)).symm, fun c1 => ⟨fun c => (bI_f (fun z => c z.2.1)).symm, fun c2 => ?_⟩⟩
    exact qen _ _ (fun c => (bI_t ⟨c1, c2, c⟩).symm) (fun c => (bI_f (fun z => c z.2.2)).symm) rfl (by omega) (by omega)
theorem r_mappable {M : cM} {L : cL} {x : Int32} {Z : Int32 → Prop} (H Lo : Int64) (B n : Nat) (h : Z (bI (okA H Lo B n))) (hn : n < 2 ^ 32) (hB : B < 100) (h0 : L 0 3 = H) (h1 : L 0 4 = Lo) (h2 : M 0 5 = nI B) (hx : x = nI n) : wp_X7_isMappable_0 M L x Z := by
  subst hx
  unfold wp_X7_isMappable_0
  rw [u_24 hn, u_16 hn, h0, h1, h2, lg_cmp_eq, lg_cmp_eq, show nI (n / 65536) &&& (255 : Int32) = nI (n / 65536 % 256) from pk_andN (by omega) 8 (by decide)]
  rintro x1 rfl x2 rfl
  refine qe _ _ (fun c => zf h (okA_n (by omega))) (fun c1 => ?_) rfl (by omega) (by omega)
  refine qe _ _ (fun c => zf h (okA_n (by omega))) (fun c2 => ?_) rfl (by omega) (by omega)
  refine ⟨n / 65536 ≠ 43518, fun c3 => ?_, ?_⟩
  · refine qs _ _ (fun c4 => ?_) (fun c => zf h (okA_n (by omega))) rfl (by omega) (by omega)
    refine ⟨fun v => v = bI (wk H Lo B), ?_, ?_⟩
    · rintro v rfl
      refine bz (fun c => zt h ⟨c1, c2, c4, c3, fun z => c z.1⟩) (fun c => ?_)
      have ht : ¬ (n / 16777216 = 10 ∨ n / 1048576 = 2753 ∨ n / 65536 = 49320) → okA H Lo B n := fun z => ⟨c1, c2, c4, c3, fun y => z y.2⟩
      have hf : (n / 16777216 = 10 ∨ n / 1048576 = 2753 ∨ n / 65536 = 49320) → ¬ okA H Lo B n := fun z y => y.2.2.2.2 ⟨c, z⟩
      repeat' first
        | exact zt h (ht (by omega))
        | exact zf h (hf (by omega))
        | refine bz (fun c => ?_) (fun c => ?_)
        | refine zb (fun c => ?_) (fun c => ?_)
        | refine qe _ _ (fun c => ?_) (fun c => ?_) (by first | rfl | assumption) (by omega) (by omega)
        | refine qen _ _ (fun c => ?_) (fun c => ?_) (by first | rfl | assumption) (by omega) (by omega)
        | refine ql _ _ (fun c => ?_) (fun c => ?_) (by first | rfl | assumption) (by omega) (by omega)
        | refine qln _ _ (fun c => ?_) (fun c => ?_) (by first | rfl | assumption) (by omega) (by omega)
        | refine qg _ _ (fun c => ?_) (fun c => ?_) (by first | rfl | assumption) (by omega) (by omega)
        | refine qgn _ _ (fun c => ?_) (fun c => ?_) (by first | rfl | assumption) (by omega) (by omega)
        | refine qs _ _ (fun c => ?_) (fun c => ?_) (by first | rfl | assumption) (by omega) (by omega)
        | refine qsn _ _ (fun c => ?_) (fun c => ?_) (by first | rfl | assumption) (by omega) (by omega)
        | refine qb _ _ (fun c => ?_) (fun c => ?_) (by first | rfl | assumption) (by omega) (by omega)
        | refine qbn _ _ (fun c => ?_) (fun c => ?_) (by first | rfl | assumption) (by omega) (by omega)
        | refine pk_eq _ _ (fun c => ?_) (fun c => ?_) (by first | rfl | assumption) (by first | rfl | assumption) (by omega) (by omega)
        | refine pn_eq _ _ (fun c => ?_) (fun c => ?_) (by first | rfl | assumption) (by first | rfl | assumption) (by omega) (by omega)
        | refine pk_le _ _ (fun c => ?_) (fun c => ?_) (by first | rfl | assumption) (by first | rfl | assumption) (by omega) (by omega)
        | refine pn_le _ _ (fun c => ?_) (fun c => ?_) (by first | rfl | assumption) (by first | rfl | assumption) (by omega) (by omega)
        | refine pk_lt _ _ (fun c => ?_) (fun c => ?_) (by first | rfl | assumption) (by first | rfl | assumption) (by omega) (by omega)
        | refine pn_lt _ _ (fun c => ?_) (fun c => ?_) (by first | rfl | assumption) (by first | rfl | assumption) (by omega) (by omega)
        | refine And.intro (fun c => absurd c (by decide)) (fun _ => ?_)
        | refine And.intro (fun _ => ?_) (fun c => absurd rfl c)
        | refine And.intro (fun c => absurd rfl c) (fun _ => ?_)
        | refine And.intro (fun _ => ?_) (fun c => absurd c (by decide))
        | refine Exists.intro _ (And.intro (fun hv => hv) ?_)
    · refine ⟨_, fun hv => hv, ?_⟩
      refine qen _ _ (fun c => ?_) (fun c => (bI_f (fun z => c z.2.2)).symm) rfl (by omega) (by omega)
      refine ⟨fun c => (bI_f (fun z => c z.1)).symm, fun c1 => ⟨fun c => (bI_f (fun z => c z.2.1)).symm, fun c2 => ?_⟩⟩
      exact (bI_t ⟨c1, c2, c⟩).symm
  · repeat' first
      | exact by omega
      | exact zf h (okA_n (by omega))
      | refine bz (fun c => ?_) (fun c => ?_)
      | refine zb (fun c => ?_) (fun c => ?_)
      | refine qe _ _ (fun c => ?_) (fun c => ?_) (by first | rfl | assumption) (by omega) (by omega)
      | refine qen _ _ (fun c => ?_) (fun c => ?_) (by first | rfl | assumption) (by omega) (by omega)
      | refine ql _ _ (fun c => ?_) (fun c => ?_) (by first | rfl | assumption) (by omega) (by omega)
      | refine qln _ _ (fun c => ?_) (fun c => ?_) (by first | rfl | assumption) (by omega) (by omega)
      | refine qg _ _ (fun c => ?_) (fun c => ?_) (by first | rfl | assumption) (by omega) (by omega)
      | refine qgn _ _ (fun c => ?_) (fun c => ?_) (by first | rfl | assumption) (by omega) (by omega)
      | refine qs _ _ (fun c => ?_) (fun c => ?_) (by first | rfl | assumption) (by omega) (by omega)
      | refine qsn _ _ (fun c => ?_) (fun c => ?_) (by first | rfl | assumption) (by omega) (by omega)
      | refine qb _ _ (fun c => ?_) (fun c => ?_) (by first | rfl | assumption) (by omega) (by omega)
      | refine qbn _ _ (fun c => ?_) (fun c => ?_) (by first | rfl | assumption) (by omega) (by omega)
      | refine pk_eq _ _ (fun c => ?_) (fun c => ?_) (by first | rfl | assumption) (by first | rfl | assumption) (by omega) (by omega)
      | refine pn_eq _ _ (fun c => ?_) (fun c => ?_) (by first | rfl | assumption) (by first | rfl | assumption) (by omega) (by omega)
      | refine pk_le _ _ (fun c => ?_) (fun c => ?_) (by first | rfl | assumption) (by first | rfl | assumption) (by omega) (by omega)
      | refine pn_le _ _ (fun c => ?_) (fun c => ?_) (by first | rfl | assumption) (by first | rfl | assumption) (by omega) (by omega)
      | refine pk_lt _ _ (fun c => ?_) (fun c => ?_) (by first | rfl | assumption) (by first | rfl | assumption) (by omega) (by omega)
      | refine pn_lt _ _ (fun c => ?_) (fun c => ?_) (by first | rfl | assumption) (by first | rfl | assumption) (by omega) (by omega)
      | refine And.intro (fun c => absurd c (by decide)) (fun _ => ?_)
      | refine And.intro (fun _ => ?_) (fun c => absurd rfl c)
      | refine And.intro (fun c => absurd rfl c) (fun _ => ?_)
      | refine And.intro (fun _ => ?_) (fun c => absurd c (by decide))
