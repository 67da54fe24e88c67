/-! frames: what is not written -/
def fr (M M' : cM) (S : List Nat) : Prop := ∀ c, c ∉ S → M' c = M c
theorem fr_r (M : cM) (S : List Nat) : fr M M S := fun _ _ => rfl
theorem fr_t {M M1 M2 : cM} {S : List Nat} (h : fr M M1 S) (h2 : fr M1 M2 S) : fr M M2 S := fun c hc => (h2 c hc).trans (h c hc)
theorem fr_s {M M1 : cM} {S T : List Nat} (h : fr M M1 S) (e : ∀ c, c ∈ S → c ∈ T) : fr M M1 T := fun c hc => h c (fun z => hc (e c z))
theorem wr_fr {M M' : cM} {c a : Nat} {l S : List Nat} (h : wr M M' c a l) (e : c ∈ S) : fr M M' S := fun c' hc => h.1 c' (fun z => hc (z ▸ e))
theorem mu_fr (M : cM) (c k : Nat) (v : Int32) {S : List Nat} (e : c ∈ S) : fr M (mu M c k v) S := fun c' hc => mu_ne _ _ _ _ (fun z => hc (z ▸ e))
def frL (L L' : cL) (S : List Nat) : Prop := ∀ c, c ∉ S → L' c = L c
theorem frL_r (L : cL) (S : List Nat) : frL L L S := fun _ _ => rfl
theorem frL_t {M M1 M2 : cL} {S : List Nat} (h : frL M M1 S) (h2 : frL M1 M2 S) : frL M M2 S := fun c hc => (h2 c hc).trans (h c hc)
theorem frL_s {M M1 : cL} {S T : List Nat} (h : frL M M1 S) (e : ∀ c, c ∈ S → c ∈ T) : frL M M1 T := fun c hc => h c (fun z => hc (e c z))
theorem ml_frL (M : cL) (c k : Nat) (v : Int64) {S : List Nat} (e : c ∈ S) : frL M (ml M c k v) S := fun c' hc => ml_ne _ _ _ _ (fun z => hc (z ▸ e))
/-- of the reference: its own fields apart -/
def fz (M M' : cM) (S T : List Nat) : Prop := fr M M' S ∧ ∀ j, j ∉ T → M' 0 j = M 0 j
theorem fz_r (M : cM) (S T : List Nat) : fz M M S T := ⟨fr_r _ _, fun _ _ => rfl⟩
theorem fz_t {M M1 M2 : cM} {S T : List Nat} (h : fz M M1 S T) (h2 : fz M1 M2 S T) : fz M M2 S T := ⟨fr_t h.1 h2.1, fun c hc => (h2.2 c hc).trans (h.2 c hc)⟩
theorem fz_s {M M1 : cM} {S T S' T' : List Nat} (h : fz M M1 S T) (e : ∀ c, c ∈ S → c ∈ S') (e' : ∀ c, c ∈ T → c ∈ T') : fz M M1 S' T' := ⟨fr_s h.1 e, fun c hc => h.2 c (fun z => hc (e' c z))⟩
theorem wr_fz {M M' : cM} {c a : Nat} {l S T : List Nat} (h : wr M M' c a l) (e : c ∈ S) (e0 : 0 ≠ c) : fz M M' S T := ⟨wr_fr h e, fun j _ => by rw [h.1 0 e0]⟩
theorem mu_fz0 (M : cM) (k : Nat) (v : Int32) {S T : List Nat} (e : 0 ∈ S) (ek : k ∈ T) : fz M (mu M 0 k v) S T := ⟨mu_fr _ _ _ _ e, fun j hj => mu_oth _ _ _ _ (fun z => hj (z ▸ ek))⟩
theorem mu_fz (M : cM) (c k : Nat) (v : Int32) {S T : List Nat} (e : c ∈ S) (e0 : 0 ≠ c) : fz M (mu M c k v) S T := ⟨mu_fr _ _ _ _ e, fun j _ => by rw [mu_ne _ _ _ _ e0]⟩
def fL (L L' : cL) (T : List Nat) : Prop := (∀ c, c ≠ 0 → L' c = L c) ∧ ∀ j, j ∉ T → L' 0 j = L 0 j
theorem fL_r (L : cL) (T : List Nat) : fL L L T := ⟨fun _ _ => rfl, fun _ _ => rfl⟩
theorem fL_t {M M1 M2 : cL} {T : List Nat} (h : fL M M1 T) (h2 : fL M1 M2 T) : fL M M2 T := ⟨fun c hc => (h2.1 c hc).trans (h.1 c hc), fun c hc => (h2.2 c hc).trans (h.2 c hc)⟩
theorem fL_s {M M1 : cL} {T T' : List Nat} (h : fL M M1 T) (e' : ∀ c, c ∈ T → c ∈ T') : fL M M1 T' := ⟨h.1, fun c hc => h.2 c (fun z => hc (e' c z))⟩
theorem sF_fL {L L' : cL} {T : List Nat} (h : sF L L') (e : 18 ∈ T) : fL L L' T := ⟨h.1, fun j hj => h.2 j (fun z => hj (z ▸ e))⟩
theorem ml_fL (L : cL) (k : Nat) (v : Int64) {T : List Nat} (e : k ∈ T) : fL L (ml L 0 k v) T := ⟨fun c hc => ml_ne _ _ _ _ hc, fun j hj => ml_oth _ _ _ _ (fun z => hj (z ▸ e))⟩
/-! zeros that are written over in order -/
def zs (k : Nat) : List Nat := List.replicate k 0
theorem zs_len (k : Nat) : (zs k).length = k := List.length_replicate
theorem zs_add (a b : Nat) : zs (a + b) = zs a ++ zs b := by unfold zs; rw [List.replicate_append_replicate]
theorem zs_cut {k j : Nat} (h : j ≤ k) : zs k = zs j ++ zs (k - j) := by rw [← zs_add]; congr 1; omega
theorem bys_0 (w : Nat) : bys w 0 = zs w := by
  induction w with
  | zero => rfl
  | succ w ih => unfold bys; rw [ih, Nat.zero_div]; rfl
theorem spl_mid (l m s r : List Nat) (h : m.length = s.length) : spl (l ++ (m ++ r)) l.length s = l ++ (s ++ r) := by
  unfold spl
  rw [List.take_left', List.append_assoc]
  · rw [← h, ← List.drop_drop, List.drop_left', List.drop_left']
    · rfl
    · rfl
  · rfl
theorem wr_ov {M M1 M2 : cM} {c a b k : Nat} {l s : List Nat} (h : wr M M1 c a (l ++ zs k)) (h2 : wr M1 M2 c b s) (e : b = a + l.length) (hk : s.length ≤ k) : wr M M2 c a ((l ++ s) ++ zs (k - s.length)) := by
  have := wr_spl h h2 e (by rw [List.length_append, zs_len]; omega)
  rw [zs_cut hk, spl_mid _ _ _ _ (zs_len _)] at this
  rw [List.append_assoc]
  exact this
theorem wr_gap {M M1 : cM} {c a k : Nat} {l : List Nat} (j : Nat) (h : wr M M1 c a (l ++ zs k)) (hj : j ≤ k) : wr M M1 c a ((l ++ zs j) ++ zs (k - j)) := by
  rw [List.append_assoc, ← zs_cut hj]; exact h
/-! lists of octets -/
def oct (l : List Nat) : Prop := ∀ x, x ∈ l → x < 256
theorem oct_nil : oct [] := fun _ h => absurd h (List.not_mem_nil)
theorem oct_app {l m : List Nat} (h : oct l) (h2 : oct m) : oct (l ++ m) := fun x hx => (List.mem_append.mp hx).elim (h x) (h2 x)
theorem oct_bys (w n : Nat) : oct (bys w n) := by
  induction w with
  | zero => exact oct_nil
  | succ w ih =>
    unfold bys
    intro x hx
    rcases List.mem_cons.mp hx with h | h
    · rw [h]; exact Nat.mod_lt _ (by decide)
    · exact ih x h
theorem oct_seg {g : Nat → Nat} (hg : ∀ i, g i < 256) (a k : Nat) : oct (seg g a k) := by
  induction k generalizing a with
  | zero => exact oct_nil
  | succ k ih =>
    unfold seg
    intro x hx
    rcases List.mem_cons.mp hx with h | h
    · rw [h]; exact hg _
    · exact ih _ x h
theorem oct_take {l : List Nat} (h : oct l) (k : Nat) : oct (l.take k) := fun x hx => h x (List.mem_of_mem_take hx)
theorem oct_drop {l : List Nat} (h : oct l) (k : Nat) : oct (l.drop k) := fun x hx => h x (List.mem_of_mem_drop hx)
theorem oct_spl {l s : List Nat} (h : oct l) (h2 : oct s) (k : Nat) : oct (spl l k s) := oct_app (oct_app (oct_take h _) h2) (oct_drop h _)
theorem oct_zs (k : Nat) : oct (zs k) := fun x hx => by rw [List.eq_of_mem_replicate hx]; decide
theorem oct_lg {l : List Nat} (h : oct l) (i : Nat) : lg l i < 256 := by
  unfold lg
  rw [List.getD_eq_getElem?_getD]
  by_cases c : i < l.length
  · rw [List.getElem?_eq_getElem c]; exact h _ (List.getElem_mem c)
  · rw [List.getElem?_eq_none (by omega)]; decide
def lw (l : List Nat) (i : Nat) : Nat := lg l i * 256 + lg l (i + 1)
theorem lw_lt {l : List Nat} (h : oct l) (i : Nat) : lw l i < 65536 := by
  unfold lw; have := oct_lg h i; have := oct_lg h (i + 1); omega
theorem lsm_lt {l : List Nat} (h : oct l) : lsm l ≤ l.length * 65280 := sm8_le (oct_lg h) 0 l.length
theorem holds_oct {f : Nat → Int32} {l : List Nat} {a : Nat} (h : holds f a l) : oct l := by
  induction l generalizing a with
  | nil => exact oct_nil
  | cons x l ih =>
    intro y hy
    rcases List.mem_cons.mp hy with e | e
    · rw [e, ← h.1.2]; exact oc_lt _
    · exact ih h.2 y e
theorem holds_by {f : Nat → Int32} {l : List Nat} {a : Nat} (h : holds f a l) (i : Nat) (hi : i < l.length) : isBy (f (a + i)) := (holds_at h hi).1
theorem holds_wd {f : Nat → Int32} {l : List Nat} {a n : Nat} (h : holds f a l) (hn : a + l.length ≤ n) {k : Nat} (hk : k + 1 < l.length) : wd8 (at8 f n) (a + k) = lw l k := by
  unfold wd8 lw
  rw [holds_at8 h hn (by omega), show a + k + 1 = a + (k + 1) by omega, holds_at8 h hn hk]
theorem seg_lg {g : Nat → Nat} {a k i : Nat} (h : i < k) : lg (seg g a k) i = g (a + i) := seg_getD g a k i h
theorem seg_lw {g : Nat → Nat} {a k i : Nat} (h : i + 1 < k) : lw (seg g a k) i = wd8 g (a + i) := by
  unfold lw wd8; rw [seg_lg (by omega), seg_lg h]; rfl
theorem seg_lsm (g : Nat → Nat) (a k : Nat) : lsm (seg g a k) = sm8 g a k := by
  unfold lsm; rw [seg_len]
  exact sm8_shift (fun i hi => by rw [Nat.zero_add, seg_lg hi])
theorem seg_holds {f : Nat → Int32} {l : List Nat} {a n : Nat} (h : holds f a l) (hn : a + l.length ≤ n) {i k : Nat} (hk : i + k ≤ l.length) : seg (at8 f n) (a + i) k = (l.drop i).take k := by
  induction k generalizing i with
  | zero => simp [seg]
  | succ k ih =>
    unfold seg
    have hi : i < l.length := by omega
    rw [holds_at8 h hn hi, show a + i + 1 = a + (i + 1) by omega, ih (by omega), List.drop_eq_getElem_cons hi, List.take_succ_cons]
    congr 1
    unfold lg
    rw [List.getD_eq_getElem?_getD, List.getElem?_eq_getElem hi]; rfl
/-! the class reads its tape -/
theorem c_at {M : cM} {L : cL} {x : Int32} {Z : Int32 → Prop} {g : Nat → Nat} (k : Nat) (hg : at8 (M 2) 2400 = g) (h : Z (nI (g k))) (hk : k < 2 ^ 31 := by omega) (hx : x = nI k := by first | rfl | exact nI_add _ _ | assumption) : wp_X4_at_1 M L x Z := by subst hg; exact p_at_1 k h hk hx
theorem c_word {M : cM} {L : cL} {x : Int32} {Z : Int32 → Prop} {g : Nat → Nat} (k : Nat) (hg : at8 (M 2) 2400 = g) (h : Z (nI (wd8 g k))) (hk : k + 1 < 2400 := by omega) (hx : x = nI k := by first | rfl | exact nI_add _ _ | assumption) : wp_X4_word_1 M L x Z := by subst hg; exact p_word_1 k h hk hx
theorem c_sum {M : cM} {L : cL} {x y : Int32} {Z : Int64 → Prop} {g : Nat → Nat} (a b : Nat) (hg : at8 (M 2) 2400 = g) (h : Z (lN (sm8 g a (b - a)))) (hab : a ≤ b := by omega) (hb : b < 2 ^ 30 := by omega) (hx : x = nI a := by first | rfl | exact nI_add _ _ | assumption) (hy : y = nI b := by first | rfl | exact nI_add _ _ | assumption) : wp_X4_sum_1 M L x y Z := by subst hg; exact p_sum_1 a b h hab hb hx hy
theorem c_number {M : cM} {L : cL} {x y : Int32} {Z : Int64 → Prop} {g : Nat → Nat} (a w : Nat) (hg : at8 (M 2) 2400 = g) (h : Z (lN (num8 g a w))) (ha : a + w < 2 ^ 30 := by omega) (hw : w ≤ 8 := by omega) (hx : x = nI a := by first | rfl | exact nI_add _ _ | assumption) (hy : y = nI w := by first | rfl | exact nI_add _ _ | assumption) : wp_X4_number_1 M L x y Z := by subst hg; exact p_number_1 a w h ha hw hx hy
theorem c_word_any {M : cM} {L : cL} {x : Int32} {Z : Int32 → Prop} (k : Nat) (h : ∀ v, v < 65536 → Z (nI v)) (hk : k < 2 ^ 31 := by omega) (hx : x = nI k := by first | rfl | exact nI_add _ _ | assumption) : wp_X4_word_1 M L x Z := by
  subst hx
  by_cases c : k + 1 < 2400
  · exact p_word_1 k (h _ (wd8_lt (fun i => at8_lt _ _ i) k)) c rfl
  · unfold wp_X4_word_1
    refine ⟨fun c => absurd c (nI_pos hk), fun _ => ⟨fun _ => h 0 (by decide), fun c2 => ?_⟩⟩
    rw [show (2400 : Int32) - 1 = nI 2399 from by decide] at c2
    exact (c2 ((nI_leI (a := 2399) (b := k) (by decide) hk).mpr (by omega))).elim
theorem d_oct {M : cM} {L : cL} {x : Int32} {Z : Int32 → Prop} {g : Nat → Nat} (k : Nat) (hg : at8 (M 1) 2400 = g) (h : Z (nI (g k))) (hk : k < 2400 := by omega) (hx : x = nI k := by first | rfl | exact nI_add _ _ | assumption) : wp_X7_octetAt_1 M L x Z := by subst hg; exact r_oct_1 k h hk hx
theorem d_two {M : cM} {L : cL} {x : Int32} {Z : Int32 → Prop} {g : Nat → Nat} (k : Nat) (hg : at8 (M 1) 2400 = g) (h : Z (nI (wd8 g k))) (hk : k + 1 < 2400 := by omega) (hx : x = nI k := by first | rfl | exact nI_add _ _ | assumption) : wp_X7_twoAt_1 M L x Z := by subst hg; exact r_two_1 k h hk hx
theorem d_int {M : cM} {L : cL} {x : Int32} {Z : Int32 → Prop} {g : Nat → Nat} (k : Nat) (hg : at8 (M 1) 2400 = g) (h : Z (nI (num8 g k 4))) (hk : k + 3 < 2400 := by omega) (hx : x = nI k := by first | rfl | exact nI_add _ _ | assumption) : wp_X7_intAt_1 M L x Z := by subst hg; exact r_int_1 k h hk hx
theorem d_long {M : cM} {L : cL} {x : Int32} {Z : Int64 → Prop} {g : Nat → Nat} (k : Nat) (hg : at8 (M 1) 2400 = g) (h : Z (lN (num8 g k 8))) (hk : k + 7 < 2400 := by omega) (hx : x = nI k := by first | rfl | exact nI_add _ _ | assumption) : wp_X7_longAt_1 M L x Z := by subst hg; exact r_long k h hk hx
