theorem va_P_left {D : va_G} {cl : List vw_C} {w1 w2 : va_W} {H : Heap} (h : va_P D cl (w1 ++ w2) H) : va_P D cl w1 H := fun k q hk => h k q (by rw [List.getElem?_append_left (List.getElem?_eq_some_iff.mp hk).1]; exact hk)
theorem va_P_right {D : va_G} {cl : List vw_C} {w1 w2 : va_W} {H : Heap} (h : va_P D cl (w1 ++ w2) H) : va_P D cl w2 H := fun k q hk => h (w1.length + k) q (by rw [List.getElem?_append_right (Nat.le_add_right _ _), Nat.add_sub_cancel_left]; exact hk)
abbrev oW (o : Nat) (kO : ClassId) (f : Nat → Int64) : va_W := [(o, .inl (kO, 1, .inr (.inl f)))]
theorem cpAddr (a : Nat → Nat) (kA : Nat → ClassId) (M : cM) (L : cL) {k : Nat} (hk : k < 16) : ∃ e, (cpWd a kA M L)[k]? = some (a k, e) := by
  rcases (show k = 0 ∨ k = 1 ∨ k = 2 ∨ k = 3 ∨ k = 4 ∨ k = 5 ∨ k = 6 ∨ k = 7 ∨ k = 8 ∨ k = 9 ∨ k = 10 ∨ k = 11 ∨ k = 12 ∨ k = 13 ∨ k = 14 ∨ k = 15 by omega) with rfl | rfl | rfl | rfl | rfl | rfl | rfl | rfl | rfl | rfl | rfl | rfl | rfl | rfl | rfl | rfl <;> exact ⟨_, rfl⟩
theorem rpAddr (a : Nat → Nat) (kA : Nat → ClassId) (M : cM) (L : cL) {k : Nat} (hk : k < 6) : ∃ e, (rpWd a kA M L)[k]? = some (a k, e) := by
  rcases (show k = 0 ∨ k = 1 ∨ k = 2 ∨ k = 3 ∨ k = 4 ∨ k = 5 by omega) with rfl | rfl | rfl | rfl | rfl | rfl <;> exact ⟨_, rfl⟩
theorem cpIdx {a : Nat → Nat} {kA : Nat → ClassId} {M : cM} {L : cL} {k : Nat} {q : Nat × va_E} (h : (cpWd a kA M L)[k]? = some q) : k < 16 ∧ q.1 = a k := by
  have hk : k < 16 := (List.getElem?_eq_some_iff.mp h).1
  obtain ⟨e, he⟩ := cpAddr a kA M L hk
  rw [he] at h; cases h; exact ⟨hk, rfl⟩
theorem rpIdx {a : Nat → Nat} {kA : Nat → ClassId} {M : cM} {L : cL} {k : Nat} {q : Nat × va_E} (h : (rpWd a kA M L)[k]? = some q) : k < 6 ∧ q.1 = a k := by
  have hk : k < 6 := (List.getElem?_eq_some_iff.mp h).1
  obtain ⟨e, he⟩ := rpAddr a kA M L hk
  rw [he] at h; cases h; exact ⟨hk, rfl⟩
theorem cpD_any {A : Nat → Prop} {a : Nat → Nat} {kA : Nat → ClassId} {M M' : cM} {L L' : cL} (h : va_D A (cpWd a kA M L)) : va_D A (cpWd a kA M' L') :=
  ⟨fun i j p q hi hj e => by
    obtain ⟨h1, e1⟩ := cpIdx hi; obtain ⟨h2, e2⟩ := cpIdx hj
    obtain ⟨x, hx⟩ := cpAddr a kA M L h1; obtain ⟨y, hy⟩ := cpAddr a kA M L h2
    exact h.1 i j _ _ hx hy (by show a i = a j; rw [← e1, ← e2]; exact e), fun k q hk => by
    obtain ⟨h1, e1⟩ := cpIdx hk; obtain ⟨x, hx⟩ := cpAddr a kA M L h1
    rw [e1]; exact h.2 k _ hx⟩
theorem rpD_any {A : Nat → Prop} {a : Nat → Nat} {kA : Nat → ClassId} {M M' : cM} {L L' : cL} (h : va_D A (rpWd a kA M L)) : va_D A (rpWd a kA M' L') :=
  ⟨fun i j p q hi hj e => by
    obtain ⟨h1, e1⟩ := rpIdx hi; obtain ⟨h2, e2⟩ := rpIdx hj
    obtain ⟨x, hx⟩ := rpAddr a kA M L h1; obtain ⟨y, hy⟩ := rpAddr a kA M L h2
    exact h.1 i j _ _ hx hy (by show a i = a j; rw [← e1, ← e2]; exact e), fun k q hk => by
    obtain ⟨h1, e1⟩ := rpIdx hk; obtain ⟨x, hx⟩ := rpAddr a kA M L h1
    rw [e1]; exact h.2 k _ hx⟩
/-! the law's six helpers: the class's world and the row 'out' -/
def lhA (a : Nat → Nat) (o sz : Nat) : Nat → Prop := fun q => (∃ k, k < 16 ∧ q = a k) ∨ q = o ∨ sz ≤ q
theorem lhA_cp {a : Nat → Nat} {o sz sz' : Nat} (h : sz ≤ sz') (q : Nat) (hq : cpA a sz' q) : lhA a o sz q := hq.elim Or.inl (fun z => Or.inr (Or.inr (Nat.le_trans h z)))
def lhPre (dC : Nat → ClassId) (dI : Nat → Nat → Nat) (a : Nat → Nat) (kA : Nat → ClassId) (t sa : Nat → Nat) (o : Nat) (kO : ClassId) (M : cM) (L : cL) (f : Nat → Int64) (sz : Nat) (U : State) : Prop :=
  U.heap.size = sz ∧ va_P (dC, dI) vwCl (cpWd a kA M L) U.heap ∧ va_P (dC, dI) vwCl (oW o kO f) U.heap ∧ va_K (dC, dI) vwCl (cpTy kA) U ∧ va_K (dC, dI) vwCl [(kO, .long)] U ∧ va_D (fun _ => True) (cpWd a kA M L) ∧ (∀ k, k < 16 → a k ≠ o) ∧ cpE t (lhA a o sz) U ∧ cpX sa (lhA a o sz) U
def lhAt (dC : Nat → ClassId) (dI : Nat → Nat → Nat) (a : Nat → Nat) (kA : Nat → ClassId) (o : Nat) (kO : ClassId) (u : cM × cL × (Nat → Int64)) (t : State) : Prop := va_P (dC, dI) vwCl (cpWd a kA u.1 u.2.1) t.heap ∧ va_P (dC, dI) vwCl (oW o kO u.2.2) t.heap
theorem lhPre_blind {dC : Nat → ClassId} {dI : Nat → Nat → Nat} {a : Nat → Nat} {kA : Nat → ClassId} {t sa : Nat → Nat} {o : Nat} {kO : ClassId} {M : cM} {L : cL} {f : Nat → Int64} {sz : Nat} {av : List Value} : FrameBlind (va_Pc av (lhPre dC dI a kA t sa o kO M L f sz)) := fun x U g mk q => by
  obtain ⟨h0, h1, h2, h3, h4, h5, h6, h7, h8, h9⟩ := q
  exact ⟨h0, h1, h2, h3, va_K.moved (u := U) (U := U.calling g mk x) (Vm.Alike.refl U.vm) h4, va_K.moved (u := U) (U := U.calling g mk x) (Vm.Alike.refl U.vm) h5, h6, h7, h8.calling, h9.calling⟩
theorem lhenter {l : Launch} {dC : Nat → ClassId} {dI : Nat → Nat → Nat} {a : Nat → Nat} {kA : Nat → ClassId} {t sa : Nat → Nat} {o : Nat} {kO : ClassId} {M : cM} {L : cL} {f : Nat → Int64} {sz mc ms : Nat} {cc : ByteArray} {y : MethodName} {ws ws' : List Cond} {rm : Room} {n : Nat} {ret : Option FieldType} {hh : List (Nat × Nat × Nat × Nat)} {Qc : Array Value → State → Outcome → State → Prop} {av : List Value} (hy : plainName y.cls = true) (hw : ws = Cond.codeWith y cc n ret hh :: ws') (hn : (lg_sl av).length ≤ n)
    (body : ∀ (p : Program) (e : Env) (s : State) (m : MethodId) (below : List Frame) (meth : Method) (c : Code) (ls : Array Slot), p.tables.exec = Jvm.exec → c.code = cc → c.maxLocals = n → meth.sig.returnType = ret → meth.locks = false → s.vm.findClass y.cls = some m.cls → (∀ w ∈ ws, w.before av.toArray s = true) → c.exceptionTable.toList = tableOf hh → s.heap.size = sz → va_P (dC, dI) vwCl (cpWd a kA M L) s.heap → va_P (dC, dI) vwCl (oW o kO f) s.heap → va_K (dC, dI) vwCl (cpTy kA) s → va_K (dC, dI) vwCl [(kO, .long)] s → va_D (lhA a o sz) (cpWd a kA M L) → (∀ k, k < 16 → a k ≠ o) → cpE t (lhA a o sz) s → cpX sa (lhA a o sz) s → va_S (lhA a o sz) s.heap s.heap [] → lv_has ls n (lv_args 0 av) →
      W p l e rm s m av.toArray below meth c s.heap [] 0 0 (MQ below Qc av.toArray s mc ms (lhA a o sz)) (F0 m 0 ls [])) :
    Met l y ws rm (va_Pc av (lhPre dC dI a kA t sa o kO M L f sz)) Qc mc ms (lhA a o sz) := by
  refine va_MetW (cc := cc) (maxL := n) (ret := ret) (hh := hh) hy hw ?_
  intro p e s m args below meth c s₁ B hml hv
  obtain ⟨rfl, hsz, hP, hO, hK, hKo, hD0, hne, hE, hX⟩ := hv
  have hl := lv_entry av (n := n) hn
  have hts := atoms_spec (ws := ws) B.pre
  have hTab : c.exceptionTable.toList = tableOf hh := vx_table (x := y) B (hts (.codeWith y cc n ret hh) (by rw [hw]; exact List.mem_cons_self))
  have key := body p e s m below meth c ((lg_sl av ++ List.replicate (n - (lg_sl av).length) Slot.unset).toArray) B.exec B.bytes hml B.returns B.notSynchronized (findClass_of_methodNamed B.named) hts hTab hsz hP hO hK hKo ⟨hD0.1, fun k q hk => Or.inl ⟨k, (cpIdx hk).1, (cpIdx hk).2⟩⟩ hne hE hX va_S.rf hl
  rw [lg_entry_eq]
  exact key
theorem lhpre {dC : Nat → ClassId} {dI : Nat → Nat → Nat} {a : Nat → Nat} {kA : Nat → ClassId} {t sa : Nat → Nat} {o : Nat} {M : cM} {L : cL} {sz : Nat} {s : State} {H : Heap} {locs : List Loc} {As : List Value} (hsz : s.heap.size = sz) (hP : va_P (dC, dI) vwCl (cpWd a kA M L) H) (hK : va_K (dC, dI) vwCl (cpTy kA) s) (hD : va_D (lhA a o sz) (cpWd a kA M L)) (hE : cpE t (lhA a o sz) s) (hX : cpX sa (lhA a o sz) s) (hS : va_S (lhA a o sz) s.heap H locs) : PreV s H RX6 (a 0) (va_Pc (.ref (a 0) :: As) (cpPreX dC dI a kA t sa M L H.size)) As :=
  ⟨cpPreX_blind, va_recv hK hP (ci := 5) (q0 := 0) rfl rfl, fun U hU hW => ⟨rfl, ⟨by rw [hU], by rw [hU]; exact hP, va_K.moved hW.alike hK, hD.weaken (fun _ _ _ _ => trivial), hE.call hW hU hS (lhA_cp (by rw [← hsz]; exact hS.1))⟩, hX.call hW hU hS (lhA_cp (by rw [← hsz]; exact hS.1))⟩⟩
/-- the row 'out' is kept where the class's world is written -/
theorem oKeep {D : va_G} {cl : List vw_C} {a : Nat → Nat} {o : Nat} {kO : ClassId} {f : Nat → Int64} {H H1 : Heap} (hO : va_P D cl (oW o kO f) H) (hne : ∀ k, k < 16 → a k ≠ o) (hk : ∀ q : Nat, q < H.size → ¬ cpA a H.size q → H1[q]? = H[q]?) : va_P D cl (oW o kO f) H1 := by
  refine hO.kept (fun k q hq => hk q.1 (hO k q hq).lt ?_)
  have hk1 : k < 1 := (List.getElem?_eq_some_iff.mp hq).1
  have hk0 : k = 0 := by omega
  subst hk0
  have hlt := (hO 0 q hq).lt
  cases hq
  rintro (⟨j, hj, e⟩ | z)
  · exact hne j hj e.symm
  · exact absurd z (Nat.not_le.mpr hlt)
theorem cpoD {A : Nat → Prop} {a : Nat → Nat} {kA : Nat → ClassId} {M : cM} {L : cL} {o : Nat} {kO : ClassId} {f : Nat → Int64} (hD : va_D A (cpWd a kA M L)) (ho : A o) (hne : ∀ k, k < 16 → a k ≠ o) : va_D A (cpWd a kA M L ++ oW o kO f) := by
  refine hD.app ⟨fun i j p q hi hj _ => ?_, fun k q hk => ?_⟩ (fun i j p q hi hj => ?_)
  · have h1 : i < 1 := (List.getElem?_eq_some_iff.mp hi).1
    have h2 : j < 1 := (List.getElem?_eq_some_iff.mp hj).1
    omega
  · have h1 : k < 1 := (List.getElem?_eq_some_iff.mp hk).1
    have h0 : k = 0 := by omega
    subst h0; cases hk; exact ho
  · have h1 : j < 1 := (List.getElem?_eq_some_iff.mp hj).1
    have h0 : j = 0 := by omega
    subst h0; cases hj
    rw [(cpIdx hi).2]; exact hne i (cpIdx hi).1
theorem cpo_get (a : Nat → Nat) (kA : Nat → ClassId) (M : cM) (L : cL) (o : Nat) (kO : ClassId) (f : Nat → Int64) : (cpWd a kA M L ++ oW o kO f)[16]? = some (o, .inl (kO, 1, .inr (.inl f))) := rfl
theorem cpo_set (a : Nat → Nat) (kA : Nat → ClassId) (M : cM) (L : cL) (o : Nat) (kO : ClassId) (f g : Nat → Int64) : (cpWd a kA M L ++ oW o kO f).set 16 (o, .inl (kO, 1, .inr (.inl g))) = cpWd a kA M L ++ oW o kO g := rfl
theorem vp_in_01 : vp_in 0 1 := by unfold vp_in; decide
