/-! words of addresses; which protocols; faults -/
theorem p_wordsOf {M : cM} {L : cL} {x : Int64} {Z : Int64 → Prop} (n : Nat) (h : Z (lN (w4 n))) (hn : uN x = n) : wp_X6_wordsOf M L x Z := by
  have hl : n < 18446744073709551616 := by rw [← hn]; exact uN_lt x
  unfold wp_X6_wordsOf
  have a48 : ((lN n).toUInt64 >>> ((48 : Int32).toInt64.toUInt64 &&& Int64.toUInt64 63)).toInt64 = lN (n / 281474976710656) := wb_shr (k := 48) hl (by decide)
  have a32 : ((lN n).toUInt64 >>> ((32 : Int32).toInt64.toUInt64 &&& Int64.toUInt64 63)).toInt64 = lN (n / 4294967296) := wb_shr (k := 32) hl (by decide)
  have a16 : ((lN n).toUInt64 >>> ((16 : Int32).toInt64.toUInt64 &&& Int64.toUInt64 63)).toInt64 = lN (n / 65536) := wb_shr (k := 16) hl (by decide)
  rw [← lN_uN x, hn, a48, a32, a16, l_and16 (by omega), l_and16 (by omega), l_and16 (by omega), lN_add, lN_add, lN_add]
  exact h
/-- the words of two images -/
def iw (H Lo : Int64) (B s t : Nat) : Nat := w4 (uN (upA H B s)) + w4 (uN (loA Lo B s)) + w4 (uN (upA H B t)) + w4 (uN (loA Lo B t))
theorem iw_le (H Lo : Int64) (B s t : Nat) : iw H Lo B s t ≤ 1048560 := by
  unfold iw
  have := w4_le (uN_lt (upA H B s))
  have := w4_le (uN_lt (loA Lo B s))
  have := w4_le (uN_lt (upA H B t))
  have := w4_le (uN_lt (loA Lo B t))
  omega
/-- the class knows the prefix -/
def mapC (r : Nat → Int32) (l : Nat → Int64) (H Lo : Int64) (B : Nat) : Prop := l 0 = H ∧ l 1 = Lo ∧ r 2 = nI B ∧ pfx H Lo B
def mapR (M : cM) (L : cL) (H Lo : Int64) (B : Nat) : Prop := M 0 5 = nI B ∧ L 0 3 = H ∧ L 0 4 = Lo ∧ pfx H Lo B
theorem mapR_f {M M' : cM} {L L' : cL} {H Lo : Int64} {B : Nat} {S T T' : List Nat} (h : mapR M L H Lo B) (f : fz M M' S T) (f' : fL L L' T') (e : 5 ∉ T) (e3 : 3 ∉ T') (e4 : 4 ∉ T') : mapR M' L' H Lo B := ⟨(f.2 5 e).trans h.1, (f'.2 3 e3).trans h.2.1, (f'.2 4 e4).trans h.2.2.1, h.2.2.2⟩
theorem pfx_lt {H Lo : Int64} {B : Nat} (h : pfx H Lo B) : B < 100 := by have := pfx_B h; omega
theorem num4_lt {g : Nat → Nat} (hg : ∀ i, g i < 256) (k : Nat) : num8 g k 4 < 4294967296 := num8_lt hg k 4
theorem c_imageWords_11 {M : cM} {L : cL} {Z : Int64 → Prop} {g : Nat → Nat} {H Lo : Int64} {B : Nat} (a n : Nat) (hgb : ∀ i, g i < 256) (hp : pk4 (M 11) (L 11) g a n) (hm : mapC (M 10) (L 10) H Lo B) (h : Z (lN (iw H Lo B (sr4 g a) (tg4 g a)))) : wp_X6_imageWords_0_11 M L Z := by
  have h10 : M 11 10 = nI (sr4 g a) := hp.2.2.2.2.2.2.2.2.2.2.1
  have h11 : M 11 11 = nI (tg4 g a) := hp.2.2.2.2.2.2.2.2.2.2.2.1
  have hs : sr4 g a < 4294967296 := num4_lt hgb _
  have ht : tg4 g a < 4294967296 := num4_lt hgb _
  have hB := pfx_B hm.2.2.2
  unfold wp_X6_imageWords_0_11
  refine p_upper H B (sr4 g a) ?_ hs hB hm.1 hm.2.2.1 h10
  refine p_wordsOf _ ?_ rfl
  refine p_lower Lo B (sr4 g a) ?_ hs hB hm.2.1 hm.2.2.1 h10
  refine p_wordsOf _ ?_ rfl
  refine p_upper H B (tg4 g a) ?_ ht hB hm.1 hm.2.2.1 h11
  refine p_wordsOf _ ?_ rfl
  refine p_lower Lo B (tg4 g a) ?_ ht hB hm.2.1 hm.2.2.1 h11
  refine p_wordsOf _ ?_ rfl
  rw [lN_add, lN_add, lN_add]
  exact h
theorem c_imageWords_12 {M : cM} {L : cL} {Z : Int64 → Prop} {g : Nat → Nat} {H Lo : Int64} {B : Nat} (a n : Nat) (hgb : ∀ i, g i < 256) (hp : pk4 (M 12) (L 12) g a n) (hm : mapC (M 10) (L 10) H Lo B) (h : Z (lN (iw H Lo B (sr4 g a) (tg4 g a)))) : wp_X6_imageWords_0_12 M L Z := by
  have h10 : M 12 10 = nI (sr4 g a) := hp.2.2.2.2.2.2.2.2.2.2.1
  have h11 : M 12 11 = nI (tg4 g a) := hp.2.2.2.2.2.2.2.2.2.2.2.1
  have hs : sr4 g a < 4294967296 := num4_lt hgb _
  have ht : tg4 g a < 4294967296 := num4_lt hgb _
  have hB := pfx_B hm.2.2.2
  unfold wp_X6_imageWords_0_12
  refine p_upper H B (sr4 g a) ?_ hs hB hm.1 hm.2.2.1 h10
  refine p_wordsOf _ ?_ rfl
  refine p_lower Lo B (sr4 g a) ?_ hs hB hm.2.1 hm.2.2.1 h10
  refine p_wordsOf _ ?_ rfl
  refine p_upper H B (tg4 g a) ?_ ht hB hm.1 hm.2.2.1 h11
  refine p_wordsOf _ ?_ rfl
  refine p_lower Lo B (tg4 g a) ?_ ht hB hm.2.1 hm.2.2.1 h11
  refine p_wordsOf _ ?_ rfl
  rw [lN_add, lN_add, lN_add]
  exact h
theorem d_imagesOf {M : cM} {L : cL} {x y : Int32} {Z : Int32 → cM → cL → Prop} {H Lo : Int64} {B : Nat} (s t : Nat) (hs : s < 4294967296) (ht : t < 4294967296) (hm : mapR M L H Lo B)
    (h : ∀ L', fL L L' [15, 16, 27, 28, 29, 30] → L' 0 27 = upA H B s → L' 0 28 = loA Lo B s → L' 0 29 = upA H B t → L' 0 30 = loA Lo B t → Z (bI (okA H Lo B s ∧ okA H Lo B t)) (mu (mu M 0 25 (nI s)) 0 26 (nI t)) L') (hx : x = nI s) (hy : y = nI t) : wp_X7_imagesOf_0 M L x y Z := by
  subst hx hy
  unfold wp_X7_imagesOf_0
  rintro _ rfl _ rfl
  have hB := pfx_lt hm.2.2.2
  refine r_makeImage H Lo B s (fun L1 a1 a2 a15 a16 => ?_) hs hm.2.2.2 hm.2.1 hm.2.2.1 hm.1 rfl
  rintro _ rfl _ rfl
  refine r_makeImage H Lo B t (fun L2 b1 b2 b15 b16 => ?_) ht hm.2.2.2 ((a2 3 (by decide) (by decide)).trans hm.2.1) ((a2 4 (by decide) (by decide)).trans hm.2.2.1) hm.1 rfl
  rintro _ rfl _ rfl
  have e27 : L2 0 27 = upA H B s := (b2 27 (by decide) (by decide)).trans a15
  have e28 : L2 0 28 = loA Lo B s := (b2 28 (by decide) (by decide)).trans a16
  have e3 : L2 0 3 = H := ((b2 3 (by decide) (by decide)).trans (a2 3 (by decide) (by decide))).trans hm.2.1
  have e4 : L2 0 4 = Lo := ((b2 4 (by decide) (by decide)).trans (a2 4 (by decide) (by decide))).trans hm.2.2.1
  have k1 : fL L L1 [15, 16, 27, 28, 29, 30] := ⟨a1, fun j hj => a2 j (fun z => hj (by rw [z]; decide)) (fun z => hj (by rw [z]; decide))⟩
  have k2 := fL_t (fL_t k1 (ml_fL L1 27 (L1 0 15) (by decide))) (ml_fL _ 28 (ml L1 0 27 (L1 0 15) 0 16) (by decide))
  have k3 : fL L L2 [15, 16, 27, 28, 29, 30] := fL_t k2 ⟨b1, fun j hj => b2 j (fun z => hj (by rw [z]; decide)) (fun z => hj (by rw [z]; decide))⟩
  have k4 := fL_t (fL_t k3 (ml_fL L2 29 (L2 0 15) (by decide))) (ml_fL _ 30 (ml L2 0 29 (L2 0 15) 0 16) (by decide))
  have hz := h _ k4 e27 e28 b15 b16
  refine r_mappable H Lo B s ?_ hs hB e3 e4 hm.1 rfl
  refine bz (fun c => zf (Z := fun v => Z v _ _) hz (fun z => c z.1)) (fun c => ?_)
  refine r_mappable H Lo B t ?_ ht hB e3 e4 hm.1 rfl
  exact bz (fun c2 => zf (Z := fun v => Z v _ _) hz (fun z => c2 z.2)) (fun c2 => zt (Z := fun v => Z v _ _) hz ⟨c, c2⟩)
def barE (p : Nat) : Prop := p = 0 ∨ p = 2 ∨ p = 43 ∨ p = 44 ∨ p = 59 ∨ p = 60
def bar4 (p : Nat) : Prop := p = 0 ∨ p = 2 ∨ p = 43 ∨ p = 44 ∨ p = 58 ∨ p = 59 ∨ p = 60
def bar6 (p : Nat) : Prop := p = 0 ∨ p = 1 ∨ p = 2 ∨ p = 43 ∨ p = 44 ∨ p = 59 ∨ p = 60
theorem p_neverE {M : cM} {L : cL} {x : Int32} {Z : Int32 → Prop} (p : Nat) (h : Z (bI (barE p))) (hp : p < 256) (hx : x = nI p) : wp_X6_neverFromEither M L x Z := by
  subst hx
  unfold wp_X6_neverFromEither
  unfold barE at h
  repeat' first
    | exact zt h (by omega)
    | exact zf h (by omega)
    | refine bz (fun c => ?_) (fun c => ?_)
    | refine zb (fun c => ?_) (fun c => ?_)
    | refine qe _ _ (fun c => ?_) (fun c => ?_) (by first | rfl | assumption) (by omega) (by omega)
    | refine qen _ _ (fun c => ?_) (fun c => ?_) (by first | rfl | assumption) (by omega) (by omega)
    | refine ql _ _ (fun c => ?_) (fun c => ?_) (by first | rfl | assumption) (by omega) (by omega)
    | refine qln _ _ (fun c => ?_) (fun c => ?_) (by first | rfl | assumption) (by omega) (by omega)
    | refine qg _ _ (fun c => ?_) (fun c => ?_) (by first | rfl | assumption) (by omega) (by omega)
    | refine qgn _ _ (fun c => ?_) (fun c => ?_) (by first | rfl | assumption) (by omega) (by omega)
    | refine qs _ _ (fun c => ?_) (fun c => ?_) (by first | rfl | assumption) (by omega) (by omega)
    | refine qsn _ _ (fun c => ?_) (fun c => ?_) (by first | rfl | assumption) (by omega) (by omega)
    | refine qb _ _ (fun c => ?_) (fun c => ?_) (by first | rfl | assumption) (by omega) (by omega)
    | refine qbn _ _ (fun c => ?_) (fun c => ?_) (by first | rfl | assumption) (by omega) (by omega)
    | refine pk_eq _ _ (fun c => ?_) (fun c => ?_) (by first | rfl | assumption) (by first | rfl | assumption) (by omega) (by omega)
    | refine pn_eq _ _ (fun c => ?_) (fun c => ?_) (by first | rfl | assumption) (by first | rfl | assumption) (by omega) (by omega)
    | refine pk_le _ _ (fun c => ?_) (fun c => ?_) (by first | rfl | assumption) (by first | rfl | assumption) (by omega) (by omega)
    | refine pn_le _ _ (fun c => ?_) (fun c => ?_) (by first | rfl | assumption) (by first | rfl | assumption) (by omega) (by omega)
    | refine pk_lt _ _ (fun c => ?_) (fun c => ?_) (by first | rfl | assumption) (by first | rfl | assumption) (by omega) (by omega)
    | refine pn_lt _ _ (fun c => ?_) (fun c => ?_) (by first | rfl | assumption) (by first | rfl | assumption) (by omega) (by omega)
    | refine And.intro (fun c => absurd c (by decide)) (fun _ => ?_)
    | refine And.intro (fun _ => ?_) (fun c => absurd rfl c)
    | refine And.intro (fun c => absurd rfl c) (fun _ => ?_)
    | refine And.intro (fun _ => ?_) (fun c => absurd c (by decide))
theorem p_neverFour {M : cM} {L : cL} {x : Int32} {Z : Int32 → Prop} (p : Nat) (h : Z (bI (bar4 p))) (hp : p < 256) (hx : x = nI p) : wp_X6_neverFromFour M L x Z := by
  subst hx
  unfold wp_X6_neverFromFour
  refine p_neverE p ?_ hp rfl
  unfold bar4 at h
  unfold barE
  repeat' first
    | exact zt h (by omega)
    | exact zf h (by omega)
    | refine bz (fun c => ?_) (fun c => ?_)
    | refine zb (fun c => ?_) (fun c => ?_)
    | refine qe _ _ (fun c => ?_) (fun c => ?_) (by first | rfl | assumption) (by omega) (by omega)
    | refine qen _ _ (fun c => ?_) (fun c => ?_) (by first | rfl | assumption) (by omega) (by omega)
    | refine ql _ _ (fun c => ?_) (fun c => ?_) (by first | rfl | assumption) (by omega) (by omega)
    | refine qln _ _ (fun c => ?_) (fun c => ?_) (by first | rfl | assumption) (by omega) (by omega)
    | refine qg _ _ (fun c => ?_) (fun c => ?_) (by first | rfl | assumption) (by omega) (by omega)
    | refine qgn _ _ (fun c => ?_) (fun c => ?_) (by first | rfl | assumption) (by omega) (by omega)
    | refine qs _ _ (fun c => ?_) (fun c => ?_) (by first | rfl | assumption) (by omega) (by omega)
    | refine qsn _ _ (fun c => ?_) (fun c => ?_) (by first | rfl | assumption) (by omega) (by omega)
    | refine qb _ _ (fun c => ?_) (fun c => ?_) (by first | rfl | assumption) (by omega) (by omega)
    | refine qbn _ _ (fun c => ?_) (fun c => ?_) (by first | rfl | assumption) (by omega) (by omega)
    | refine pk_eq _ _ (fun c => ?_) (fun c => ?_) (by first | rfl | assumption) (by first | rfl | assumption) (by omega) (by omega)
    | refine pn_eq _ _ (fun c => ?_) (fun c => ?_) (by first | rfl | assumption) (by first | rfl | assumption) (by omega) (by omega)
    | refine pk_le _ _ (fun c => ?_) (fun c => ?_) (by first | rfl | assumption) (by first | rfl | assumption) (by omega) (by omega)
    | refine pn_le _ _ (fun c => ?_) (fun c => ?_) (by first | rfl | assumption) (by first | rfl | assumption) (by omega) (by omega)
    | refine pk_lt _ _ (fun c => ?_) (fun c => ?_) (by first | rfl | assumption) (by first | rfl | assumption) (by omega) (by omega)
    | refine pn_lt _ _ (fun c => ?_) (fun c => ?_) (by first | rfl | assumption) (by first | rfl | assumption) (by omega) (by omega)
    | refine And.intro (fun c => absurd c (by decide)) (fun _ => ?_)
    | refine And.intro (fun _ => ?_) (fun c => absurd rfl c)
    | refine And.intro (fun c => absurd rfl c) (fun _ => ?_)
    | refine And.intro (fun _ => ?_) (fun c => absurd c (by decide))
theorem p_neverSix {M : cM} {L : cL} {x : Int32} {Z : Int32 → Prop} (p : Nat) (h : Z (bI (bar6 p))) (hp : p < 256) (hx : x = nI p) : wp_X6_neverFromSix M L x Z := by
  subst hx
  unfold wp_X6_neverFromSix
  refine p_neverE p ?_ hp rfl
  unfold bar6 at h
  unfold barE
  repeat' first
    | exact zt h (by omega)
    | exact zf h (by omega)
    | refine bz (fun c => ?_) (fun c => ?_)
    | refine zb (fun c => ?_) (fun c => ?_)
    | refine qe _ _ (fun c => ?_) (fun c => ?_) (by first | rfl | assumption) (by omega) (by omega)
    | refine qen _ _ (fun c => ?_) (fun c => ?_) (by first | rfl | assumption) (by omega) (by omega)
    | refine ql _ _ (fun c => ?_) (fun c => ?_) (by first | rfl | assumption) (by omega) (by omega)
    | refine qln _ _ (fun c => ?_) (fun c => ?_) (by first | rfl | assumption) (by omega) (by omega)
    | refine qg _ _ (fun c => ?_) (fun c => ?_) (by first | rfl | assumption) (by omega) (by omega)
    | refine qgn _ _ (fun c => ?_) (fun c => ?_) (by first | rfl | assumption) (by omega) (by omega)
    | refine qs _ _ (fun c => ?_) (fun c => ?_) (by first | rfl | assumption) (by omega) (by omega)
    | refine qsn _ _ (fun c => ?_) (fun c => ?_) (by first | rfl | assumption) (by omega) (by omega)
    | refine qb _ _ (fun c => ?_) (fun c => ?_) (by first | rfl | assumption) (by omega) (by omega)
    | refine qbn _ _ (fun c => ?_) (fun c => ?_) (by first | rfl | assumption) (by omega) (by omega)
    | refine pk_eq _ _ (fun c => ?_) (fun c => ?_) (by first | rfl | assumption) (by first | rfl | assumption) (by omega) (by omega)
    | refine pn_eq _ _ (fun c => ?_) (fun c => ?_) (by first | rfl | assumption) (by first | rfl | assumption) (by omega) (by omega)
    | refine pk_le _ _ (fun c => ?_) (fun c => ?_) (by first | rfl | assumption) (by first | rfl | assumption) (by omega) (by omega)
    | refine pn_le _ _ (fun c => ?_) (fun c => ?_) (by first | rfl | assumption) (by first | rfl | assumption) (by omega) (by omega)
    | refine pk_lt _ _ (fun c => ?_) (fun c => ?_) (by first | rfl | assumption) (by first | rfl | assumption) (by omega) (by omega)
    | refine pn_lt _ _ (fun c => ?_) (fun c => ?_) (by first | rfl | assumption) (by first | rfl | assumption) (by omega) (by omega)
    | refine And.intro (fun c => absurd c (by decide)) (fun _ => ?_)
    | refine And.intro (fun _ => ?_) (fun c => absurd rfl c)
    | refine And.intro (fun c => absurd rfl c) (fun _ => ?_)
    | refine And.intro (fun _ => ?_) (fun c => absurd c (by decide))
theorem r_barred4 {M : cM} {L : cL} {x : Int32} {Z : Int32 → Prop} (p : Nat) (h : Z (bI (bar4 p))) (hp : p < 256) (hx : x = nI p) : wp_X7_isBarred4 M L x Z := by
  subst hx
  unfold wp_X7_isBarred4
  unfold bar4 at h
  repeat' first
    | exact zt h (by omega)
    | exact zf h (by omega)
    | refine bz (fun c => ?_) (fun c => ?_)
    | refine zb (fun c => ?_) (fun c => ?_)
    | refine qe _ _ (fun c => ?_) (fun c => ?_) (by first | rfl | assumption) (by omega) (by omega)
    | refine qen _ _ (fun c => ?_) (fun c => ?_) (by first | rfl | assumption) (by omega) (by omega)
    | refine ql _ _ (fun c => ?_) (fun c => ?_) (by first | rfl | assumption) (by omega) (by omega)
    | refine qln _ _ (fun c => ?_) (fun c => ?_) (by first | rfl | assumption) (by omega) (by omega)
    | refine qg _ _ (fun c => ?_) (fun c => ?_) (by first | rfl | assumption) (by omega) (by omega)
    | refine qgn _ _ (fun c => ?_) (fun c => ?_) (by first | rfl | assumption) (by omega) (by omega)
    | refine qs _ _ (fun c => ?_) (fun c => ?_) (by first | rfl | assumption) (by omega) (by omega)
    | refine qsn _ _ (fun c => ?_) (fun c => ?_) (by first | rfl | assumption) (by omega) (by omega)
    | refine qb _ _ (fun c => ?_) (fun c => ?_) (by first | rfl | assumption) (by omega) (by omega)
    | refine qbn _ _ (fun c => ?_) (fun c => ?_) (by first | rfl | assumption) (by omega) (by omega)
    | refine pk_eq _ _ (fun c => ?_) (fun c => ?_) (by first | rfl | assumption) (by first | rfl | assumption) (by omega) (by omega)
    | refine pn_eq _ _ (fun c => ?_) (fun c => ?_) (by first | rfl | assumption) (by first | rfl | assumption) (by omega) (by omega)
    | refine pk_le _ _ (fun c => ?_) (fun c => ?_) (by first | rfl | assumption) (by first | rfl | assumption) (by omega) (by omega)
    | refine pn_le _ _ (fun c => ?_) (fun c => ?_) (by first | rfl | assumption) (by first | rfl | assumption) (by omega) (by omega)
    | refine pk_lt _ _ (fun c => ?_) (fun c => ?_) (by first | rfl | assumption) (by first | rfl | assumption) (by omega) (by omega)
    | refine pn_lt _ _ (fun c => ?_) (fun c => ?_) (by first | rfl | assumption) (by first | rfl | assumption) (by omega) (by omega)
    | refine And.intro (fun c => absurd c (by decide)) (fun _ => ?_)
    | refine And.intro (fun _ => ?_) (fun c => absurd rfl c)
    | refine And.intro (fun c => absurd rfl c) (fun _ => ?_)
    | refine And.intro (fun _ => ?_) (fun c => absurd c (by decide))
theorem r_barred6 {M : cM} {L : cL} {x : Int32} {Z : Int32 → Prop} (p : Nat) (h : Z (bI (bar6 p))) (hp : p < 256) (hx : x = nI p) : wp_X7_isBarred6 M L x Z := by
  subst hx
  unfold wp_X7_isBarred6
  unfold bar6 at h
  repeat' first
    | exact zt h (by omega)
    | exact zf h (by omega)
    | refine bz (fun c => ?_) (fun c => ?_)
    | refine zb (fun c => ?_) (fun c => ?_)
    | refine qe _ _ (fun c => ?_) (fun c => ?_) (by first | rfl | assumption) (by omega) (by omega)
    | refine qen _ _ (fun c => ?_) (fun c => ?_) (by first | rfl | assumption) (by omega) (by omega)
    | refine ql _ _ (fun c => ?_) (fun c => ?_) (by first | rfl | assumption) (by omega) (by omega)
    | refine qln _ _ (fun c => ?_) (fun c => ?_) (by first | rfl | assumption) (by omega) (by omega)
    | refine qg _ _ (fun c => ?_) (fun c => ?_) (by first | rfl | assumption) (by omega) (by omega)
    | refine qgn _ _ (fun c => ?_) (fun c => ?_) (by first | rfl | assumption) (by omega) (by omega)
    | refine qs _ _ (fun c => ?_) (fun c => ?_) (by first | rfl | assumption) (by omega) (by omega)
    | refine qsn _ _ (fun c => ?_) (fun c => ?_) (by first | rfl | assumption) (by omega) (by omega)
    | refine qb _ _ (fun c => ?_) (fun c => ?_) (by first | rfl | assumption) (by omega) (by omega)
    | refine qbn _ _ (fun c => ?_) (fun c => ?_) (by first | rfl | assumption) (by omega) (by omega)
    | refine pk_eq _ _ (fun c => ?_) (fun c => ?_) (by first | rfl | assumption) (by first | rfl | assumption) (by omega) (by omega)
    | refine pn_eq _ _ (fun c => ?_) (fun c => ?_) (by first | rfl | assumption) (by first | rfl | assumption) (by omega) (by omega)
    | refine pk_le _ _ (fun c => ?_) (fun c => ?_) (by first | rfl | assumption) (by first | rfl | assumption) (by omega) (by omega)
    | refine pn_le _ _ (fun c => ?_) (fun c => ?_) (by first | rfl | assumption) (by first | rfl | assumption) (by omega) (by omega)
    | refine pk_lt _ _ (fun c => ?_) (fun c => ?_) (by first | rfl | assumption) (by first | rfl | assumption) (by omega) (by omega)
    | refine pn_lt _ _ (fun c => ?_) (fun c => ?_) (by first | rfl | assumption) (by first | rfl | assumption) (by omega) (by omega)
    | refine And.intro (fun c => absurd c (by decide)) (fun _ => ?_)
    | refine And.intro (fun _ => ?_) (fun c => absurd rfl c)
    | refine And.intro (fun c => absurd rfl c) (fun _ => ?_)
    | refine And.intro (fun _ => ?_) (fun c => absurd c (by decide))
def ec4 (t : Nat) : Prop := t = 8 ∨ t = 0
def er4 (t : Nat) : Prop := t = 3 ∨ t = 11 ∨ t = 12
def ec6 (t : Nat) : Prop := t = 128 ∨ t = 129
def er6 (t : Nat) : Prop := 1 ≤ t ∧ t ≤ 4
theorem p_echoFour {M : cM} {L : cL} {x : Int32} {Z : Int32 → Prop} (p : Nat) (h : Z (bI (ec4 p))) (hp : p < 256) (hx : x = nI p) : wp_X6_isEchoFour M L x Z := by
  subst hx
  unfold wp_X6_isEchoFour
  unfold ec4 at h
  repeat' first
    | exact zt h (by omega)
    | exact zf h (by omega)
    | refine bz (fun c => ?_) (fun c => ?_)
    | refine zb (fun c => ?_) (fun c => ?_)
    | refine qe _ _ (fun c => ?_) (fun c => ?_) (by first | rfl | assumption) (by omega) (by omega)
    | refine qen _ _ (fun c => ?_) (fun c => ?_) (by first | rfl | assumption) (by omega) (by omega)
    | refine ql _ _ (fun c => ?_) (fun c => ?_) (by first | rfl | assumption) (by omega) (by omega)
    | refine qln _ _ (fun c => ?_) (fun c => ?_) (by first | rfl | assumption) (by omega) (by omega)
    | refine qg _ _ (fun c => ?_) (fun c => ?_) (by first | rfl | assumption) (by omega) (by omega)
    | refine qgn _ _ (fun c => ?_) (fun c => ?_) (by first | rfl | assumption) (by omega) (by omega)
    | refine qs _ _ (fun c => ?_) (fun c => ?_) (by first | rfl | assumption) (by omega) (by omega)
    | refine qsn _ _ (fun c => ?_) (fun c => ?_) (by first | rfl | assumption) (by omega) (by omega)
    | refine qb _ _ (fun c => ?_) (fun c => ?_) (by first | rfl | assumption) (by omega) (by omega)
    | refine qbn _ _ (fun c => ?_) (fun c => ?_) (by first | rfl | assumption) (by omega) (by omega)
    | refine pk_eq _ _ (fun c => ?_) (fun c => ?_) (by first | rfl | assumption) (by first | rfl | assumption) (by omega) (by omega)
    | refine pn_eq _ _ (fun c => ?_) (fun c => ?_) (by first | rfl | assumption) (by first | rfl | assumption) (by omega) (by omega)
    | refine pk_le _ _ (fun c => ?_) (fun c => ?_) (by first | rfl | assumption) (by first | rfl | assumption) (by omega) (by omega)
    | refine pn_le _ _ (fun c => ?_) (fun c => ?_) (by first | rfl | assumption) (by first | rfl | assumption) (by omega) (by omega)
    | refine pk_lt _ _ (fun c => ?_) (fun c => ?_) (by first | rfl | assumption) (by first | rfl | assumption) (by omega) (by omega)
    | refine pn_lt _ _ (fun c => ?_) (fun c => ?_) (by first | rfl | assumption) (by first | rfl | assumption) (by omega) (by omega)
    | refine And.intro (fun c => absurd c (by decide)) (fun _ => ?_)
    | refine And.intro (fun _ => ?_) (fun c => absurd rfl c)
    | refine And.intro (fun c => absurd rfl c) (fun _ => ?_)
    | refine And.intro (fun _ => ?_) (fun c => absurd c (by decide))
theorem p_errorFour {M : cM} {L : cL} {x : Int32} {Z : Int32 → Prop} (p : Nat) (h : Z (bI (er4 p))) (hp : p < 256) (hx : x = nI p) : wp_X6_isErrorFour M L x Z := by
  subst hx
  unfold wp_X6_isErrorFour
  unfold er4 at h
  repeat' first
    | exact zt h (by omega)
    | exact zf h (by omega)
    | refine bz (fun c => ?_) (fun c => ?_)
    | refine zb (fun c => ?_) (fun c => ?_)
    | refine qe _ _ (fun c => ?_) (fun c => ?_) (by first | rfl | assumption) (by omega) (by omega)
    | refine qen _ _ (fun c => ?_) (fun c => ?_) (by first | rfl | assumption) (by omega) (by omega)
    | refine ql _ _ (fun c => ?_) (fun c => ?_) (by first | rfl | assumption) (by omega) (by omega)
    | refine qln _ _ (fun c => ?_) (fun c => ?_) (by first | rfl | assumption) (by omega) (by omega)
    | refine qg _ _ (fun c => ?_) (fun c => ?_) (by first | rfl | assumption) (by omega) (by omega)
    | refine qgn _ _ (fun c => ?_) (fun c => ?_) (by first | rfl | assumption) (by omega) (by omega)
    | refine qs _ _ (fun c => ?_) (fun c => ?_) (by first | rfl | assumption) (by omega) (by omega)
    | refine qsn _ _ (fun c => ?_) (fun c => ?_) (by first | rfl | assumption) (by omega) (by omega)
    | refine qb _ _ (fun c => ?_) (fun c => ?_) (by first | rfl | assumption) (by omega) (by omega)
    | refine qbn _ _ (fun c => ?_) (fun c => ?_) (by first | rfl | assumption) (by omega) (by omega)
    | refine pk_eq _ _ (fun c => ?_) (fun c => ?_) (by first | rfl | assumption) (by first | rfl | assumption) (by omega) (by omega)
    | refine pn_eq _ _ (fun c => ?_) (fun c => ?_) (by first | rfl | assumption) (by first | rfl | assumption) (by omega) (by omega)
    | refine pk_le _ _ (fun c => ?_) (fun c => ?_) (by first | rfl | assumption) (by first | rfl | assumption) (by omega) (by omega)
    | refine pn_le _ _ (fun c => ?_) (fun c => ?_) (by first | rfl | assumption) (by first | rfl | assumption) (by omega) (by omega)
    | refine pk_lt _ _ (fun c => ?_) (fun c => ?_) (by first | rfl | assumption) (by first | rfl | assumption) (by omega) (by omega)
    | refine pn_lt _ _ (fun c => ?_) (fun c => ?_) (by first | rfl | assumption) (by first | rfl | assumption) (by omega) (by omega)
    | refine And.intro (fun c => absurd c (by decide)) (fun _ => ?_)
    | refine And.intro (fun _ => ?_) (fun c => absurd rfl c)
    | refine And.intro (fun c => absurd rfl c) (fun _ => ?_)
    | refine And.intro (fun _ => ?_) (fun c => absurd c (by decide))
theorem p_echoSix {M : cM} {L : cL} {x : Int32} {Z : Int32 → Prop} (p : Nat) (h : Z (bI (ec6 p))) (hp : p < 256) (hx : x = nI p) : wp_X6_isEchoSix M L x Z := by
  subst hx
  unfold wp_X6_isEchoSix
  unfold ec6 at h
  repeat' first
    | exact zt h (by omega)
    | exact zf h (by omega)
    | refine bz (fun c => ?_) (fun c => ?_)
    | refine zb (fun c => ?_) (fun c => ?_)
    | refine qe _ _ (fun c => ?_) (fun c => ?_) (by first | rfl | assumption) (by omega) (by omega)
    | refine qen _ _ (fun c => ?_) (fun c => ?_) (by first | rfl | assumption) (by omega) (by omega)
    | refine ql _ _ (fun c => ?_) (fun c => ?_) (by first | rfl | assumption) (by omega) (by omega)
    | refine qln _ _ (fun c => ?_) (fun c => ?_) (by first | rfl | assumption) (by omega) (by omega)
    | refine qg _ _ (fun c => ?_) (fun c => ?_) (by first | rfl | assumption) (by omega) (by omega)
    | refine qgn _ _ (fun c => ?_) (fun c => ?_) (by first | rfl | assumption) (by omega) (by omega)
    | refine qs _ _ (fun c => ?_) (fun c => ?_) (by first | rfl | assumption) (by omega) (by omega)
    | refine qsn _ _ (fun c => ?_) (fun c => ?_) (by first | rfl | assumption) (by omega) (by omega)
    | refine qb _ _ (fun c => ?_) (fun c => ?_) (by first | rfl | assumption) (by omega) (by omega)
    | refine qbn _ _ (fun c => ?_) (fun c => ?_) (by first | rfl | assumption) (by omega) (by omega)
    | refine pk_eq _ _ (fun c => ?_) (fun c => ?_) (by first | rfl | assumption) (by first | rfl | assumption) (by omega) (by omega)
    | refine pn_eq _ _ (fun c => ?_) (fun c => ?_) (by first | rfl | assumption) (by first | rfl | assumption) (by omega) (by omega)
    | refine pk_le _ _ (fun c => ?_) (fun c => ?_) (by first | rfl | assumption) (by first | rfl | assumption) (by omega) (by omega)
    | refine pn_le _ _ (fun c => ?_) (fun c => ?_) (by first | rfl | assumption) (by first | rfl | assumption) (by omega) (by omega)
    | refine pk_lt _ _ (fun c => ?_) (fun c => ?_) (by first | rfl | assumption) (by first | rfl | assumption) (by omega) (by omega)
    | refine pn_lt _ _ (fun c => ?_) (fun c => ?_) (by first | rfl | assumption) (by first | rfl | assumption) (by omega) (by omega)
    | refine And.intro (fun c => absurd c (by decide)) (fun _ => ?_)
    | refine And.intro (fun _ => ?_) (fun c => absurd rfl c)
    | refine And.intro (fun c => absurd rfl c) (fun _ => ?_)
    | refine And.intro (fun _ => ?_) (fun c => absurd c (by decide))
theorem p_errorSix {M : cM} {L : cL} {x : Int32} {Z : Int32 → Prop} (p : Nat) (h : Z (bI (er6 p))) (hp : p < 256) (hx : x = nI p) : wp_X6_isErrorSix M L x Z := by
  subst hx
  unfold wp_X6_isErrorSix
  unfold er6 at h
  repeat' first
    | exact zt h (by omega)
    | exact zf h (by omega)
    | refine bz (fun c => ?_) (fun c => ?_)
    | refine zb (fun c => ?_) (fun c => ?_)
    | refine qe _ _ (fun c => ?_) (fun c => ?_) (by first | rfl | assumption) (by omega) (by omega)
    | refine qen _ _ (fun c => ?_) (fun c => ?_) (by first | rfl | assumption) (by omega) (by omega)
    | refine ql _ _ (fun c => ?_) (fun c => ?_) (by first | rfl | assumption) (by omega) (by omega)
    | refine qln _ _ (fun c => ?_) (fun c => ?_) (by first | rfl | assumption) (by omega) (by omega)
    | refine qg _ _ (fun c => ?_) (fun c => ?_) (by first | rfl | assumption) (by omega) (by omega)
    | refine qgn _ _ (fun c => ?_) (fun c => ?_) (by first | rfl | assumption) (by omega) (by omega)
    | refine qs _ _ (fun c => ?_) (fun c => ?_) (by first | rfl | assumption) (by omega) (by omega)
    | refine qsn _ _ (fun c => ?_) (fun c => ?_) (by first | rfl | assumption) (by omega) (by omega)
    | refine qb _ _ (fun c => ?_) (fun c => ?_) (by first | rfl | assumption) (by omega) (by omega)
    | refine qbn _ _ (fun c => ?_) (fun c => ?_) (by first | rfl | assumption) (by omega) (by omega)
    | refine pk_eq _ _ (fun c => ?_) (fun c => ?_) (by first | rfl | assumption) (by first | rfl | assumption) (by omega) (by omega)
    | refine pn_eq _ _ (fun c => ?_) (fun c => ?_) (by first | rfl | assumption) (by first | rfl | assumption) (by omega) (by omega)
    | refine pk_le _ _ (fun c => ?_) (fun c => ?_) (by first | rfl | assumption) (by first | rfl | assumption) (by omega) (by omega)
    | refine pn_le _ _ (fun c => ?_) (fun c => ?_) (by first | rfl | assumption) (by first | rfl | assumption) (by omega) (by omega)
    | refine pk_lt _ _ (fun c => ?_) (fun c => ?_) (by first | rfl | assumption) (by first | rfl | assumption) (by omega) (by omega)
    | refine pn_lt _ _ (fun c => ?_) (fun c => ?_) (by first | rfl | assumption) (by first | rfl | assumption) (by omega) (by omega)
    | refine And.intro (fun c => absurd c (by decide)) (fun _ => ?_)
    | refine And.intro (fun _ => ?_) (fun c => absurd rfl c)
    | refine And.intro (fun c => absurd rfl c) (fun _ => ?_)
    | refine And.intro (fun _ => ?_) (fun c => absurd c (by decide))
/-- what is wrong with a transport's payload -/
noncomputable def flt (g : Nat → Nat) (pr off len pa : Nat) (mo zl : Prop) : Nat :=
  cI (off ≠ 0 ∨ ¬ (pr = 17 ∨ pr = 1 ∨ pr = 58 ∨ pr = 6)) 0 (cI (len < cI (pr = 6) 20 8) 4 (cI (pr = 17 ∧ ¬ mo ∧ wd8 g (pa + 4) ≠ len) 4 (cI (pr = 17 ∧ ¬ zl ∧ wd8 g (pa + 6) = 0) 7 0)))
theorem cI_le {P : Prop} {a b n : Nat} (ha : a ≤ n) (hb : b ≤ n) : cI P a b ≤ n := by
  by_cases h : P
  · rw [cI_t h]; exact ha
  · rw [cI_f h]; exact hb
theorem flt_lt (g : Nat → Nat) (pr off len pa : Nat) (mo zl : Prop) : flt g pr off len pa mo zl ≤ 10 := by
  unfold flt
  exact cI_le (by decide) (cI_le (by decide) (cI_le (by decide) (cI_le (by decide) (by decide))))
theorem c_faultOfTransport_11 {M : cM} {L : cL} {x : Int32} {Z : Int32 → Prop} {g : Nat → Nat} (pr off len pa : Nat) (mo zl : Prop) (hg : at8 (M 2) 2400 = g) (h : Z (nI (flt g pr off len pa mo zl))) (h3 : M 11 3 = nI pr) (h5 : M 11 5 = bI mo) (h6 : M 11 6 = nI off) (h7 : M 11 7 = nI pa) (h8 : M 11 8 = nI len) (l3 : pr < 256) (l6 : off < 8192) (l8 : pa + len ≤ 2400) (hx : x = bI zl) : wp_X6_faultOfTransport_0_11 M L x Z := by
  subst hx
  have hgb : ∀ i, g i < 256 := fun i => by rw [← hg]; exact at8_lt _ _ _
  have hw4 : wd8 g (pa + 4) < 65536 := wd8_lt hgb _
  have hw6 : wd8 g (pa + 6) < 65536 := wd8_lt hgb _
  unfold wp_X6_faultOfTransport_0_11
  rw [h3, h5, h6, h7, h8]
  refine ⟨fun v => v = bI (pr = 17), ?_, ?_⟩
  · rintro _ rfl
    refine ⟨fun v => v = bI (pr = 1 ∨ pr = 58), ?_, ?_⟩
    · rintro _ rfl
      unfold flt at h
      refine qen off _ (fun c1 => ?_) (fun c1 => by rw [cI_t (Or.inl c1)] at h; exact h) rfl (by omega) (by omega)
      by_cases c2 : pr = 17 ∨ pr = 1 ∨ pr = 58 ∨ pr = 6
      · rw [cI_f (by omega)] at h
        refine ⟨True, fun _ => ?_, ?_⟩
        · refine ⟨fun v => v = nI (cI (pr = 6) 20 8), ?_, ?_⟩
          · rintro _ rfl
            have l20 : cI (pr = 6) 20 8 ≤ 20 := cI_le (by decide) (by decide)
            have l08 : 8 ≤ cI (pr = 6) 20 8 := by
              by_cases z : pr = 6
              · rw [cI_t z]; decide
              · rw [cI_f z]; decide
            refine pk_le (cI (pr = 6) 20 8) len (fun c3 => ?_) (fun c3 => by rw [cI_t c3] at h; exact h) rfl rfl (by omega) (by omega)
            rw [cI_f (by omega)] at h
            by_cases c4 : pr = 17 ∧ ¬ mo ∧ wd8 g (pa + 4) ≠ len
            · rw [cI_t c4] at h
              refine ⟨False, False.elim, ?_⟩
              refine bz (fun c => absurd c4.1 c) (fun c => ?_)
              refine zb (fun c => ?_) (fun c => absurd c c4.2.1)
              refine c_word (pa + 4) hg ?_
              exact pk_eq (wd8 g (pa + 4)) len (fun c => absurd c c4.2.2) (fun c => h) rfl rfl (by omega) (by omega)
            · rw [cI_f c4] at h
              refine ⟨True, fun _ => ?_, ?_⟩
              · refine bz (fun c => by rw [cI_f (fun z => c z.1)] at h; exact h) (fun c => ?_)
                refine zb (fun c5 => ?_) (fun c5 => by rw [cI_f (fun z => z.2.1 c5)] at h; exact h)
                refine c_word (pa + 6) hg ?_
                refine qen (wd8 g (pa + 6)) _ (fun c6 => by rw [cI_t ⟨c, c5, c6⟩] at h; exact h) (fun c6 => by rw [cI_f (fun z => c6 z.2.2)] at h; exact h) rfl (by omega) (by omega)
              · refine bz (fun c => trivial) (fun c => ?_)
                refine zb (fun c5 => ?_) (fun c5 => trivial)
                refine c_word (pa + 4) hg ?_
                exact pk_eq (wd8 g (pa + 4)) len (fun c => trivial) (fun c6 => absurd ⟨c, c5, c6⟩ c4) rfl rfl (by omega) (by omega)
          · refine qen pr _ (fun c => by rw [cI_t c]; rfl) (fun c => by rw [cI_f c]; rfl) rfl (by omega) (by omega)
        · refine zb (fun c => ?_) (fun c => trivial)
          refine zb (fun c5 => ?_) (fun c5 => trivial)
          refine qe pr _ (fun c6 => trivial) (fun c6 => by omega) rfl (by omega) (by omega)
      · rw [cI_t (Or.inr c2)] at h
        refine ⟨False, False.elim, ?_⟩
        refine zb (fun c => ?_) (fun c => by omega)
        refine zb (fun c5 => ?_) (fun c5 => by omega)
        refine qe pr _ (fun c6 => by omega) (fun c6 => h) rfl (by omega) (by omega)
    · repeat' first
        | exact (bI_t (by omega)).symm
        | exact (bI_f (by omega)).symm
        | refine bz (fun c => ?_) (fun c => ?_)
        | refine zb (fun c => ?_) (fun c => ?_)
        | refine qe _ _ (fun c => ?_) (fun c => ?_) (by first | rfl | assumption) (by omega) (by omega)
        | refine qen _ _ (fun c => ?_) (fun c => ?_) (by first | rfl | assumption) (by omega) (by omega)
        | refine ql _ _ (fun c => ?_) (fun c => ?_) (by first | rfl | assumption) (by omega) (by omega)
        | refine qln _ _ (fun c => ?_) (fun c => ?_) (by first | rfl | assumption) (by omega) (by omega)
        | refine qg _ _ (fun c => ?_) (fun c => ?_) (by first | rfl | assumption) (by omega) (by omega)
        | refine qgn _ _ (fun c => ?_) (fun c => ?_) (by first | rfl | assumption) (by omega) (by omega)
        | refine qs _ _ (fun c => ?_) (fun c => ?_) (by first | rfl | assumption) (by omega) (by omega)
        | refine qsn _ _ (fun c => ?_) (fun c => ?_) (by first | rfl | assumption) (by omega) (by omega)
        | refine qb _ _ (fun c => ?_) (fun c => ?_) (by first | rfl | assumption) (by omega) (by omega)
        | refine qbn _ _ (fun c => ?_) (fun c => ?_) (by first | rfl | assumption) (by omega) (by omega)
        | refine pk_eq _ _ (fun c => ?_) (fun c => ?_) (by first | rfl | assumption) (by first | rfl | assumption) (by omega) (by omega)
        | refine pn_eq _ _ (fun c => ?_) (fun c => ?_) (by first | rfl | assumption) (by first | rfl | assumption) (by omega) (by omega)
        | refine pk_le _ _ (fun c => ?_) (fun c => ?_) (by first | rfl | assumption) (by first | rfl | assumption) (by omega) (by omega)
        | refine pn_le _ _ (fun c => ?_) (fun c => ?_) (by first | rfl | assumption) (by first | rfl | assumption) (by omega) (by omega)
        | refine pk_lt _ _ (fun c => ?_) (fun c => ?_) (by first | rfl | assumption) (by first | rfl | assumption) (by omega) (by omega)
        | refine pn_lt _ _ (fun c => ?_) (fun c => ?_) (by first | rfl | assumption) (by first | rfl | assumption) (by omega) (by omega)
        | refine And.intro (fun c => absurd c (by decide)) (fun _ => ?_)
        | refine And.intro (fun _ => ?_) (fun c => absurd rfl c)
        | refine And.intro (fun c => absurd rfl c) (fun _ => ?_)
        | refine And.intro (fun _ => ?_) (fun c => absurd c (by decide))
        | refine Exists.intro _ (And.intro (fun hv => hv) ?_)
  · repeat' first
      | exact (bI_t (by omega)).symm
      | exact (bI_f (by omega)).symm
      | refine bz (fun c => ?_) (fun c => ?_)
      | refine zb (fun c => ?_) (fun c => ?_)
      | refine qe _ _ (fun c => ?_) (fun c => ?_) (by first | rfl | assumption) (by omega) (by omega)
      | refine qen _ _ (fun c => ?_) (fun c => ?_) (by first | rfl | assumption) (by omega) (by omega)
      | refine ql _ _ (fun c => ?_) (fun c => ?_) (by first | rfl | assumption) (by omega) (by omega)
      | refine qln _ _ (fun c => ?_) (fun c => ?_) (by first | rfl | assumption) (by omega) (by omega)
      | refine qg _ _ (fun c => ?_) (fun c => ?_) (by first | rfl | assumption) (by omega) (by omega)
      | refine qgn _ _ (fun c => ?_) (fun c => ?_) (by first | rfl | assumption) (by omega) (by omega)
      | refine qs _ _ (fun c => ?_) (fun c => ?_) (by first | rfl | assumption) (by omega) (by omega)
      | refine qsn _ _ (fun c => ?_) (fun c => ?_) (by first | rfl | assumption) (by omega) (by omega)
      | refine qb _ _ (fun c => ?_) (fun c => ?_) (by first | rfl | assumption) (by omega) (by omega)
      | refine qbn _ _ (fun c => ?_) (fun c => ?_) (by first | rfl | assumption) (by omega) (by omega)
      | refine pk_eq _ _ (fun c => ?_) (fun c => ?_) (by first | rfl | assumption) (by first | rfl | assumption) (by omega) (by omega)
      | refine pn_eq _ _ (fun c => ?_) (fun c => ?_) (by first | rfl | assumption) (by first | rfl | assumption) (by omega) (by omega)
      | refine pk_le _ _ (fun c => ?_) (fun c => ?_) (by first | rfl | assumption) (by first | rfl | assumption) (by omega) (by omega)
      | refine pn_le _ _ (fun c => ?_) (fun c => ?_) (by first | rfl | assumption) (by first | rfl | assumption) (by omega) (by omega)
      | refine pk_lt _ _ (fun c => ?_) (fun c => ?_) (by first | rfl | assumption) (by first | rfl | assumption) (by omega) (by omega)
      | refine pn_lt _ _ (fun c => ?_) (fun c => ?_) (by first | rfl | assumption) (by first | rfl | assumption) (by omega) (by omega)
      | refine And.intro (fun c => absurd c (by decide)) (fun _ => ?_)
      | refine And.intro (fun _ => ?_) (fun c => absurd rfl c)
      | refine And.intro (fun c => absurd rfl c) (fun _ => ?_)
      | refine And.intro (fun _ => ?_) (fun c => absurd c (by decide))
      | refine Exists.intro _ (And.intro (fun hv => hv) ?_)
theorem c_faultOfTransport_13 {M : cM} {L : cL} {x : Int32} {Z : Int32 → Prop} {g : Nat → Nat} (pr off len pa : Nat) (mo zl : Prop) (hg : at8 (M 2) 2400 = g) (h : Z (nI (flt g pr off len pa mo zl))) (h3 : M 13 3 = nI pr) (h5 : M 13 5 = bI mo) (h6 : M 13 6 = nI off) (h7 : M 13 7 = nI pa) (h8 : M 13 8 = nI len) (l3 : pr < 256) (l6 : off < 8192) (l8 : pa + len ≤ 2400) (hx : x = bI zl) : wp_X6_faultOfTransport_0_13 M L x Z := by
  subst hx
  have hgb : ∀ i, g i < 256 := fun i => by rw [← hg]; exact at8_lt _ _ _
  have hw4 : wd8 g (pa + 4) < 65536 := wd8_lt hgb _
  have hw6 : wd8 g (pa + 6) < 65536 := wd8_lt hgb _
  unfold wp_X6_faultOfTransport_0_13
  rw [h3, h5, h6, h7, h8]
  refine ⟨fun v => v = bI (pr = 17), ?_, ?_⟩
  · rintro _ rfl
    refine ⟨fun v => v = bI (pr = 1 ∨ pr = 58), ?_, ?_⟩
    · rintro _ rfl
      unfold flt at h
      refine qen off _ (fun c1 => ?_) (fun c1 => by rw [cI_t (Or.inl c1)] at h; exact h) rfl (by omega) (by omega)
      by_cases c2 : pr = 17 ∨ pr = 1 ∨ pr = 58 ∨ pr = 6
      · rw [cI_f (by omega)] at h
        refine ⟨True, fun _ => ?_, ?_⟩
        · refine ⟨fun v => v = nI (cI (pr = 6) 20 8), ?_, ?_⟩
          · rintro _ rfl
            have l20 : cI (pr = 6) 20 8 ≤ 20 := cI_le (by decide) (by decide)
            have l08 : 8 ≤ cI (pr = 6) 20 8 := by
              by_cases z : pr = 6
              · rw [cI_t z]; decide
              · rw [cI_f z]; decide
            refine pk_le (cI (pr = 6) 20 8) len (fun c3 => ?_) (fun c3 => by rw [cI_t c3] at h; exact h) rfl rfl (by omega) (by omega)
            rw [cI_f (by omega)] at h
            by_cases c4 : pr = 17 ∧ ¬ mo ∧ wd8 g (pa + 4) ≠ len
            · rw [cI_t c4] at h
              refine ⟨False, False.elim, ?_⟩
              refine bz (fun c => absurd c4.1 c) (fun c => ?_)
              refine zb (fun c => ?_) (fun c => absurd c c4.2.1)
              refine c_word (pa + 4) hg ?_
              exact pk_eq (wd8 g (pa + 4)) len (fun c => absurd c c4.2.2) (fun c => h) rfl rfl (by omega) (by omega)
            · rw [cI_f c4] at h
              refine ⟨True, fun _ => ?_, ?_⟩
              · refine bz (fun c => by rw [cI_f (fun z => c z.1)] at h; exact h) (fun c => ?_)
                refine zb (fun c5 => ?_) (fun c5 => by rw [cI_f (fun z => z.2.1 c5)] at h; exact h)
                refine c_word (pa + 6) hg ?_
                refine qen (wd8 g (pa + 6)) _ (fun c6 => by rw [cI_t ⟨c, c5, c6⟩] at h; exact h) (fun c6 => by rw [cI_f (fun z => c6 z.2.2)] at h; exact h) rfl (by omega) (by omega)
              · refine bz (fun c => trivial) (fun c => ?_)
                refine zb (fun c5 => ?_) (fun c5 => trivial)
                refine c_word (pa + 4) hg ?_
                exact pk_eq (wd8 g (pa + 4)) len (fun c => trivial) (fun c6 => absurd ⟨c, c5, c6⟩ c4) rfl rfl (by omega) (by omega)
          · refine qen pr _ (fun c => by rw [cI_t c]; rfl) (fun c => by rw [cI_f c]; rfl) rfl (by omega) (by omega)
        · refine zb (fun c => ?_) (fun c => trivial)
          refine zb (fun c5 => ?_) (fun c5 => trivial)
          refine qe pr _ (fun c6 => trivial) (fun c6 => by omega) rfl (by omega) (by omega)
      · rw [cI_t (Or.inr c2)] at h
        refine ⟨False, False.elim, ?_⟩
        refine zb (fun c => ?_) (fun c => by omega)
        refine zb (fun c5 => ?_) (fun c5 => by omega)
        refine qe pr _ (fun c6 => by omega) (fun c6 => h) rfl (by omega) (by omega)
    · repeat' first
        | exact (bI_t (by omega)).symm
        | exact (bI_f (by omega)).symm
        | refine bz (fun c => ?_) (fun c => ?_)
        | refine zb (fun c => ?_) (fun c => ?_)
        | refine qe _ _ (fun c => ?_) (fun c => ?_) (by first | rfl | assumption) (by omega) (by omega)
        | refine qen _ _ (fun c => ?_) (fun c => ?_) (by first | rfl | assumption) (by omega) (by omega)
        | refine ql _ _ (fun c => ?_) (fun c => ?_) (by first | rfl | assumption) (by omega) (by omega)
        | refine qln _ _ (fun c => ?_) (fun c => ?_) (by first | rfl | assumption) (by omega) (by omega)
        | refine qg _ _ (fun c => ?_) (fun c => ?_) (by first | rfl | assumption) (by omega) (by omega)
        | refine qgn _ _ (fun c => ?_) (fun c => ?_) (by first | rfl | assumption) (by omega) (by omega)
        | refine qs _ _ (fun c => ?_) (fun c => ?_) (by first | rfl | assumption) (by omega) (by omega)
        | refine qsn _ _ (fun c => ?_) (fun c => ?_) (by first | rfl | assumption) (by omega) (by omega)
        | refine qb _ _ (fun c => ?_) (fun c => ?_) (by first | rfl | assumption) (by omega) (by omega)
        | refine qbn _ _ (fun c => ?_) (fun c => ?_) (by first | rfl | assumption) (by omega) (by omega)
        | refine pk_eq _ _ (fun c => ?_) (fun c => ?_) (by first | rfl | assumption) (by first | rfl | assumption) (by omega) (by omega)
        | refine pn_eq _ _ (fun c => ?_) (fun c => ?_) (by first | rfl | assumption) (by first | rfl | assumption) (by omega) (by omega)
        | refine pk_le _ _ (fun c => ?_) (fun c => ?_) (by first | rfl | assumption) (by first | rfl | assumption) (by omega) (by omega)
        | refine pn_le _ _ (fun c => ?_) (fun c => ?_) (by first | rfl | assumption) (by first | rfl | assumption) (by omega) (by omega)
        | refine pk_lt _ _ (fun c => ?_) (fun c => ?_) (by first | rfl | assumption) (by first | rfl | assumption) (by omega) (by omega)
        | refine pn_lt _ _ (fun c => ?_) (fun c => ?_) (by first | rfl | assumption) (by first | rfl | assumption) (by omega) (by omega)
        | refine And.intro (fun c => absurd c (by decide)) (fun _ => ?_)
        | refine And.intro (fun _ => ?_) (fun c => absurd rfl c)
        | refine And.intro (fun c => absurd rfl c) (fun _ => ?_)
        | refine And.intro (fun _ => ?_) (fun c => absurd c (by decide))
        | refine Exists.intro _ (And.intro (fun hv => hv) ?_)
  · repeat' first
      | exact (bI_t (by omega)).symm
      | exact (bI_f (by omega)).symm
      | refine bz (fun c => ?_) (fun c => ?_)
      | refine zb (fun c => ?_) (fun c => ?_)
      | refine qe _ _ (fun c => ?_) (fun c => ?_) (by first | rfl | assumption) (by omega) (by omega)
      | refine qen _ _ (fun c => ?_) (fun c => ?_) (by first | rfl | assumption) (by omega) (by omega)
      | refine ql _ _ (fun c => ?_) (fun c => ?_) (by first | rfl | assumption) (by omega) (by omega)
      | refine qln _ _ (fun c => ?_) (fun c => ?_) (by first | rfl | assumption) (by omega) (by omega)
      | refine qg _ _ (fun c => ?_) (fun c => ?_) (by first | rfl | assumption) (by omega) (by omega)
      | refine qgn _ _ (fun c => ?_) (fun c => ?_) (by first | rfl | assumption) (by omega) (by omega)
      | refine qs _ _ (fun c => ?_) (fun c => ?_) (by first | rfl | assumption) (by omega) (by omega)
      | refine qsn _ _ (fun c => ?_) (fun c => ?_) (by first | rfl | assumption) (by omega) (by omega)
      | refine qb _ _ (fun c => ?_) (fun c => ?_) (by first | rfl | assumption) (by omega) (by omega)
      | refine qbn _ _ (fun c => ?_) (fun c => ?_) (by first | rfl | assumption) (by omega) (by omega)
      | refine pk_eq _ _ (fun c => ?_) (fun c => ?_) (by first | rfl | assumption) (by first | rfl | assumption) (by omega) (by omega)
      | refine pn_eq _ _ (fun c => ?_) (fun c => ?_) (by first | rfl | assumption) (by first | rfl | assumption) (by omega) (by omega)
      | refine pk_le _ _ (fun c => ?_) (fun c => ?_) (by first | rfl | assumption) (by first | rfl | assumption) (by omega) (by omega)
      | refine pn_le _ _ (fun c => ?_) (fun c => ?_) (by first | rfl | assumption) (by first | rfl | assumption) (by omega) (by omega)
      | refine pk_lt _ _ (fun c => ?_) (fun c => ?_) (by first | rfl | assumption) (by first | rfl | assumption) (by omega) (by omega)
      | refine pn_lt _ _ (fun c => ?_) (fun c => ?_) (by first | rfl | assumption) (by first | rfl | assumption) (by omega) (by omega)
      | refine And.intro (fun c => absurd c (by decide)) (fun _ => ?_)
      | refine And.intro (fun _ => ?_) (fun c => absurd rfl c)
      | refine And.intro (fun c => absurd rfl c) (fun _ => ?_)
      | refine And.intro (fun _ => ?_) (fun c => absurd c (by decide))
      | refine Exists.intro _ (And.intro (fun hv => hv) ?_)
/-- what is wrong with a packet of IPv4 that stands whole on the tape -/
noncomputable def ft4 (g : Nat → Nat) (lt : Prop) : Nat := flt g (g 9) (of4 g 0) (tl4 g 0 - hl4 g 0) (hl4 g 0) (mf4 g 0) (lt ∧ ¬ mf4 g 0)
noncomputable def f4 (g : Nat → Nat) (lt : Prop) : Nat := cI (bar4 (g 9)) 6 (cI (g 9 = 1 ∧ fg4 g 0) 5 (cI (ft4 g lt ≠ 0) (ft4 g lt) (cI (g 9 = 1 ∧ ¬ (ec4 (g (hl4 g 0)) ∨ er4 (g (hl4 g 0)))) 6 0)))
theorem c_faultOfFour {M : cM} {L : cL} {Z : Int32 → Prop} {g : Nat → Nat} (n : Nat) (lt : Prop) (hg : at8 (M 2) 2400 = g) (hp : pk4 (M 11) (L 11) g 0 n) (hn : tl4 g 0 ≤ n) (hh : hl4 g 0 ≤ tl4 g 0) (hn2 : n ≤ 2400) (h : Z (nI (f4 g lt))) (hlt : M 0 15 = bI lt) : wp_X6_faultOfFour_0_11 M L Z := by
  have hgb : ∀ i, g i < 256 := fun i => by rw [← hg]; exact at8_lt _ _ _
  have h3 : M 11 3 = nI (g 9) := hp.2.2.2.1
  have h5 : M 11 5 = bI (mf4 g 0) := hp.2.2.2.2.2.1
  have h6 : M 11 6 = nI (of4 g 0) := hp.2.2.2.2.2.2.1
  have h7 : M 11 7 = nI (hl4 g 0) := by rw [hp.2.2.2.2.2.2.2.1, Nat.zero_add]
  have h8 : M 11 8 = nI (tl4 g 0 - hl4 g 0) := hp.2.2.2.2.2.2.2.2.1
  have ho : of4 g 0 < 8192 := Nat.mod_lt _ (by decide)
  have hb9 := hgb 9
  have hbh := hgb (hl4 g 0)
  have hhl : hl4 g 0 ≤ 60 := hl4_le 0
  unfold wp_X6_faultOfFour_0_11
  rw [h3]
  refine p_neverFour (g 9) ?_ hb9 rfl
  unfold f4 at h
  refine bz (fun c1 => ?_) (fun c1 => by rw [cI_t c1] at h; exact h)
  rw [cI_f c1] at h
  by_cases c2 : g 9 = 1 ∧ fg4 g 0
  · rw [cI_t c2] at h
    refine ⟨False, False.elim, ?_⟩
    refine qen (g 9) _ (fun c => ?_) (fun c => absurd c2.1 c) rfl (by omega) (by omega)
    refine c_fragment_11 0 n hgb hp ?_
    exact bz (fun c => absurd c2.2 c) (fun c => h)
  rw [cI_f c2] at h
  refine ⟨True, fun _ => ?_, ?_⟩
  · refine ⟨fun v => v = bI (lt ∧ ¬ mf4 g 0), ?_, ?_⟩
    · rintro _ rfl
      refine c_faultOfTransport_11 (g 9) (of4 g 0) (tl4 g 0 - hl4 g 0) (hl4 g 0) (mf4 g 0) (lt ∧ ¬ mf4 g 0) hg ?_ h3 h5 h6 h7 h8 hb9 ho (by omega) rfl
      have hf := flt_lt g (g 9) (of4 g 0) (tl4 g 0 - hl4 g 0) (hl4 g 0) (mf4 g 0) (lt ∧ ¬ mf4 g 0)
      refine qen (ft4 g lt) _ (fun c3 => ?_) (fun c3 => by rw [cI_t c3] at h; exact h) rfl (by unfold ft4; omega) (by omega)
      rw [cI_f (fun z => z c3)] at h
      refine qe (g 9) _ (fun c4 => ?_) (fun c4 => ?_) rfl (by omega) (by omega)
      · rw [h7]
        refine c_at (hl4 g 0) hg ?_
        refine p_echoFour (g (hl4 g 0)) ?_ hbh rfl
        refine zb (fun c5 => ?_) (fun c5 => by rw [cI_f (fun z => z.2 (Or.inl c5))] at h; exact h)
        refine p_errorFour (g (hl4 g 0)) ?_ hbh rfl
        exact bz (fun c6 => by rw [cI_t ⟨c4, fun z => z.elim c5 c6⟩] at h; exact h) (fun c6 => by rw [cI_f (fun z => z.2 (Or.inr c6))] at h; exact h)
      · rw [cI_f (fun z => c4 z.1)] at h
        have e : flt g (g 9) (of4 g 0) (tl4 g 0 - hl4 g 0) (hl4 g 0) (mf4 g 0) (lt ∧ ¬ mf4 g 0) = 0 := c3
        rw [e]
        exact h
    · rw [hlt, h5]
      by_cases c3 : lt ∧ ¬ mf4 g 0
      · rw [bI_t c3]
        refine ⟨False, False.elim, ?_⟩
        refine bz (fun c => absurd c3.1 c) (fun c => ?_)
        exact zb (fun c => rfl) (fun c => absurd c c3.2)
      · rw [bI_f c3]
        refine ⟨True, fun _ => rfl, ?_⟩
        refine bz (fun c => trivial) (fun c => ?_)
        exact zb (fun c5 => absurd ⟨c, c5⟩ c3) (fun c => trivial)
  · refine qen (g 9) _ (fun c => ?_) (fun c => trivial) rfl (by omega) (by omega)
    refine c_fragment_11 0 n hgb hp ?_
    exact bz (fun c5 => trivial) (fun c5 => absurd ⟨c, c5⟩ c2)
