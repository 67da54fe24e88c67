abbrev cM : Type := Nat → Nat → Int32
abbrev cL : Type := Nat → Nat → Int64
/-- one number of one cell is written -/
def mu (M : cM) (c k : Nat) (v : Int32) : cM := fun c' => if c' = c then (fun k' => if k' = k then v else M c k') else M c'
def ml (L : cL) (c k : Nat) (v : Int64) : cL := fun c' => if c' = c then (fun k' => if k' = k then v else L c k') else L c'
/-- a whole row is written anew -/
def ms (M : cM) (c : Nat) (f : Nat → Int32) : cM := fun c' => if c' = c then f else M c'
/-- a boolean, as the machine holds it -/
def isB (v : Int32) : Prop := narrow .boolean (.int v) = .int v ∧ fits .boolean (.int v) = true
theorem isB_0 : isB 0 := ⟨by decide +kernel, by decide +kernel⟩
theorem isB_1 : isB 1 := ⟨by decide +kernel, by decide +kernel⟩
abbrev vwCl : List vw_C := [(RX0, TX0, 18), (RX1, TX1, 3), (RX3, TX3, 4), (RX4, TX4, 2), (RX5, TX5, 16), (RX6, TX6, 17), (RX7, TX7, 44)]
def cpWd (a : Nat → Nat) (kA : Nat → ClassId) (M : cM) (L : cL) : va_W := [(a 0, .inr (5, [.ref (a 1), .ref (a 3), .ref (a 5), .ref (a 10), .ref (a 11), .ref (a 12), .ref (a 13), .ref (a 14), .ref (a 15), .int (M 0 9), .long (L 0 10), .long (L 0 11), .int (M 0 12), .int (M 0 13), .int (M 0 14), .int (M 0 15), .int (M 0 16)])),
  (a 1, .inr (3, [.ref (a 2), .int (M 1 1)])),
  (a 2, .inl (kA 2, 2400, .inl (M 2))),
  (a 3, .inr (3, [.ref (a 4), .int (M 3 1)])),
  (a 4, .inl (kA 4, 2408, .inl (M 4))),
  (a 5, .inr (2, [.ref (a 6), .ref (a 8), .ref (a 9), .int (M 5 3)])),
  (a 6, .inr (3, [.ref (a 7), .int (M 6 1)])),
  (a 7, .inl (kA 7, 3332, .inl (M 7))),
  (a 8, .inl (kA 8, 49, .inl (M 8))),
  (a 9, .inl (kA 9, 49, .inl (M 9))),
  (a 10, .inr (1, [.long (L 10 0), .long (L 10 1), .int (M 10 2)])),
  (a 11, .inr (0, [.int (M 11 0), .int (M 11 1), .int (M 11 2), .int (M 11 3), .int (M 11 4), .int (M 11 5), .int (M 11 6), .int (M 11 7), .int (M 11 8), .int (M 11 9), .int (M 11 10), .int (M 11 11), .long (L 11 12), .long (L 11 13), .int (M 11 14), .int (M 11 15), .int (M 11 16), .int (M 11 17)])),
  (a 12, .inr (0, [.int (M 12 0), .int (M 12 1), .int (M 12 2), .int (M 12 3), .int (M 12 4), .int (M 12 5), .int (M 12 6), .int (M 12 7), .int (M 12 8), .int (M 12 9), .int (M 12 10), .int (M 12 11), .long (L 12 12), .long (L 12 13), .int (M 12 14), .int (M 12 15), .int (M 12 16), .int (M 12 17)])),
  (a 13, .inr (4, [.int (M 13 0), .int (M 13 1), .int (M 13 2), .int (M 13 3), .int (M 13 4), .int (M 13 5), .int (M 13 6), .int (M 13 7), .int (M 13 8), .int (M 13 9), .int (M 13 10), .int (M 13 11), .long (L 13 12), .long (L 13 13), .int (M 13 14), .int (M 13 15)])),
  (a 14, .inr (4, [.int (M 14 0), .int (M 14 1), .int (M 14 2), .int (M 14 3), .int (M 14 4), .int (M 14 5), .int (M 14 6), .int (M 14 7), .int (M 14 8), .int (M 14 9), .int (M 14 10), .int (M 14 11), .long (L 14 12), .long (L 14 13), .int (M 14 14), .int (M 14 15)])),
  (a 15, .inl (kA 15, 11, .inl (M 15)))]
def cpTy (kA : Nat → ClassId) : List (ClassId × FieldType) := [(kA 2, .byte), (kA 4, .byte), (kA 7, .byte), (kA 8, .int), (kA 9, .int), (kA 15, .int)]
def cpA (a : Nat → Nat) (sz : Nat) : Nat → Prop := fun q => (∃ k, k < 16 ∧ q = a k) ∨ sz ≤ q
def cpNest : List Cond := [.fieldLinkNest "PacketTranslator$SixPacket" 9 "PacketTranslator$Row" "length" "I" "PacketTranslator",
  .fieldLinkNest "PacketTranslator" 89 "PacketTranslator$Row" "length" "I" "PacketTranslator",
  .fieldLinkNest "PacketTranslator$FourPacket" 9 "PacketTranslator$Row" "length" "I" "PacketTranslator",
  .fieldLinkNest "PacketTranslator$Parts" 31 "PacketTranslator$Row" "length" "I" "PacketTranslator",
  .fieldLinkNest "PacketTranslator" 152 "PacketTranslator$Parts" "row" "LPacketTranslator$Row;" "PacketTranslator",
  .fieldLinkNest "PacketTranslator" 140 "PacketTranslator$Parts" "number" "I" "PacketTranslator",
  .fieldLinkNest "PacketTranslator" 114 "PacketTranslator$Mapping" "high" "J" "PacketTranslator",
  .fieldLinkNest "PacketTranslator" 117 "PacketTranslator$Mapping" "low" "J" "PacketTranslator",
  .fieldLinkNest "PacketTranslator" 120 "PacketTranslator$Mapping" "bits" "I" "PacketTranslator",
  .fieldLinkNest "PacketTranslator" 381 "PacketTranslator$FourPacket" "header" "I" "PacketTranslator",
  .fieldLinkNest "PacketTranslator" 347 "PacketTranslator$FourPacket" "total" "I" "PacketTranslator",
  .fieldLinkNest "PacketTranslator" 233 "PacketTranslator$FourPacket" "dontFragment" "Z" "PacketTranslator",
  .fieldLinkNest "PacketTranslator" 196 "PacketTranslator$FourPacket" "routed" "Z" "PacketTranslator",
  .fieldLinkNest "PacketTranslator" 420 "PacketTranslator$SixPacket" "headed" "Z" "PacketTranslator",
  .fieldLinkNest "PacketTranslator" 396 "PacketTranslator$SixPacket" "segments" "I" "PacketTranslator",
  .methodLinkNest "PacketTranslator" 23 ⟨"PacketTranslator$Parts", "<init>", "()V"⟩ "PacketTranslator",
  .methodLinkNest "PacketTranslator" 30 ⟨"PacketTranslator$Mapping", "<init>", "()V"⟩ "PacketTranslator",
  .methodLinkNest "PacketTranslator" 37 ⟨"PacketTranslator$FourPacket", "<init>", "()V"⟩ "PacketTranslator",
  .methodLinkNest "PacketTranslator$FourPacket" 3 ⟨"PacketTranslator$Packet", "<init>", "()V"⟩ "PacketTranslator",
  .methodLinkNest "PacketTranslator" 47 ⟨"PacketTranslator$SixPacket", "<init>", "()V"⟩ "PacketTranslator",
  .methodLinkNest "PacketTranslator$SixPacket" 3 ⟨"PacketTranslator$Packet", "<init>", "()V"⟩ "PacketTranslator",
  .methodLinkNest "PacketTranslator$FourPacket" 31 ⟨"PacketTranslator", "folded", "(J)I"⟩ "PacketTranslator",
  .methodLinkNest "PacketTranslator$SixPacket" 101 ⟨"PacketTranslator", "wordsOf", "(J)J"⟩ "PacketTranslator"]
def cpIsNest (w : Cond) : Bool := match w with
  | .fieldLinkNest .. => true
  | .methodLinkNest .. => true
  | _ => false
theorem cpNest_all : cpNest.all cpIsNest = true := by decide +kernel
theorem cpNest_warm {w : Cond} (hw : cpIsNest w = true) {s U : State} (hW : s.WarmedH U.vm) (h : va_Nw w s) : va_Nw w U := by
  cases w <;> first | exact va_Nw.warmF hW h | exact va_Nw.warmM hW h | cases hw
def cpTab0 : List Int32 := [256, 256, 1025, 260, 512, 256, 256, 256, 256, 257, 257, 256, 256, 257, (-1), 257]
def cpTab1 : List Int32 := [0, 1, 4, 4, (-1), (-1), (-1), (-1), 7, 6, (-1), (-1), 8, 8, 8, 8, 24, 24, 24, 24]
def cpTab2 : List Int32 := [65535, 32000, 17914, 8166, 4352, 2002, 1492, 1006, 508, 296]
def cpTab3 : List Int32 := [769, 778, 769, 769, 771]
def cpTab4 : List Int32 := [0, 1, (-1), (-1), 2, 2, 9, 8, 12, 12, 12, 12, 12, 12, 12, 12, 12, 12, 12, 12, 12, 12, 12, 12, 16, 16, 16, 16, 16, 16, 16, 16, 16, 16, 16, 16, 16, 16, 16, 16]
def cpT (t : Nat → Nat) (A : Nat → Prop) (U : State) (H : Heap) : Prop := (va_Z "PacketTranslator" "UNREACHABLE_TO_SIX" "[I" (.ref (t 0)) A U H ∧ va_T .int (t 0) 16 (fun j => .int (cpTab0.getD j 0)) A U H) ∧ (va_Z "PacketTranslator" "POINTER_TO_SIX" "[I" (.ref (t 1)) A U H ∧ va_T .int (t 1) 20 (fun j => .int (cpTab1.getD j 0)) A U H) ∧ (va_Z "PacketTranslator" "PLATEAUS" "[I" (.ref (t 2)) A U H ∧ va_T .int (t 2) 10 (fun j => .int (cpTab2.getD j 0)) A U H) ∧ (va_Z "PacketTranslator" "UNREACHABLE_TO_FOUR" "[I" (.ref (t 3)) A U H ∧ va_T .int (t 3) 5 (fun j => .int (cpTab3.getD j 0)) A U H) ∧ (va_Z "PacketTranslator" "POINTER_TO_FOUR" "[I" (.ref (t 4)) A U H ∧ va_T .int (t 4) 40 (fun j => .int (cpTab4.getD j 0)) A U H)
theorem cpT.moved {t : Nat → Nat} {A : Nat → Prop} {u U : State} {H : Heap} (hvm : u.vm.Alike U.vm) (h : cpT t A u H) : cpT t A U H := by
  obtain ⟨⟨h0, h1⟩, ⟨h2, h3⟩, ⟨h4, h5⟩, ⟨h6, h7⟩, ⟨h8, h9⟩⟩ := h
  exact ⟨⟨va_Z.moved hvm h0, va_T.moved hvm h1⟩, ⟨va_Z.moved hvm h2, va_T.moved hvm h3⟩, ⟨va_Z.moved hvm h4, va_T.moved hvm h5⟩, ⟨va_Z.moved hvm h6, va_T.moved hvm h7⟩, ⟨va_Z.moved hvm h8, va_T.moved hvm h9⟩⟩
theorem cpT.kept {t : Nat → Nat} {A : Nat → Prop} {U : State} {H H1 : Heap} (h : cpT t A U H) (hq : ∀ a : Nat, a < H.size → ¬ A a → H1[a]? = H[a]?) : cpT t A U H1 := by
  obtain ⟨⟨h0, h1⟩, ⟨h2, h3⟩, ⟨h4, h5⟩, ⟨h6, h7⟩, ⟨h8, h9⟩⟩ := h
  exact ⟨⟨va_Z.kept h0 hq, va_T.kept h1 hq⟩, ⟨va_Z.kept h2 hq, va_T.kept h3 hq⟩, ⟨va_Z.kept h4 hq, va_T.kept h5 hq⟩, ⟨va_Z.kept h6 hq, va_T.kept h7 hq⟩, ⟨va_Z.kept h8 hq, va_T.kept h9 hq⟩⟩
theorem cpT.narrow {t : Nat → Nat} {A B : Nat → Prop} {U : State} {H : Heap} (h : cpT t A U H) (hAB : ∀ q, B q → A q) : cpT t B U H := by
  obtain ⟨⟨h0, h1⟩, ⟨h2, h3⟩, ⟨h4, h5⟩, ⟨h6, h7⟩, ⟨h8, h9⟩⟩ := h
  exact ⟨⟨va_Z.narrow h0 hAB, va_T.narrow h1 hAB⟩, ⟨va_Z.narrow h2 hAB, va_T.narrow h3 hAB⟩, ⟨va_Z.narrow h4 hAB, va_T.narrow h5 hAB⟩, ⟨va_Z.narrow h6 hAB, va_T.narrow h7 hAB⟩, ⟨va_Z.narrow h8 hAB, va_T.narrow h9 hAB⟩⟩
def cpE (t : Nat → Nat) (A : Nat → Prop) (U : State) : Prop := (∀ w ∈ cpNest, va_Nw w U) ∧ cpT t A U U.heap
theorem cpE.call {t : Nat → Nat} {A B : Nat → Prop} {s U : State} {H : Heap} {locs : List Loc} (h : cpE t A s) (hW : s.WarmedH U.vm) (hU : U.heap = H) (hS : va_S A s.heap H locs) (hB : ∀ q, B q → A q) : cpE t B U :=
  ⟨fun w hw => cpNest_warm (List.all_eq_true.mp cpNest_all w hw) hW (h.1 w hw), by rw [hU]; exact ((h.2.moved hW.alike).kept hS.2.1).narrow hB⟩
theorem cpE.calling {t : Nat → Nat} {A : Nat → Prop} {U : State} {g : JFrame} {mk : MethodId} {a : Array Value} (h : cpE t A U) : cpE t A (U.calling g mk a) :=
  ⟨fun w hw => va_Nw.same (by have := List.all_eq_true.mp cpNest_all w hw; cases w <;> first | rfl | cases this) (rfl : U.vm = (U.calling g mk a).vm) (h.1 w hw), h.2.moved (u := U) (U := U.calling g mk a) (Vm.Alike.refl U.vm)⟩

def cpI (dC : Nat → ClassId) (dI : Nat → Nat → Nat) (a : Nat → Nat) (kA : Nat → ClassId) (A : Nat → Prop) (s : State) (M : cM) (L : cL) (H : Heap) (locs : List Loc) : Prop := va_P (dC, dI) vwCl (cpWd a kA M L) H ∧ va_D A (cpWd a kA M L) ∧ va_S A s.heap H locs
def cpPre (dC : Nat → ClassId) (dI : Nat → Nat → Nat) (a : Nat → Nat) (kA : Nat → ClassId) (t : Nat → Nat) (M : cM) (L : cL) (sz : Nat) (U : State) : Prop := U.heap.size = sz ∧ va_P (dC, dI) vwCl (cpWd a kA M L) U.heap ∧ va_K (dC, dI) vwCl (cpTy kA) U ∧ va_D (fun _ => True) (cpWd a kA M L) ∧ cpE t (cpA a sz) U
def cpAt (dC : Nat → ClassId) (dI : Nat → Nat → Nat) (a : Nat → Nat) (kA : Nat → ClassId) (A : Nat → Prop) (u : cM × cL) (t : State) : Prop := va_P (dC, dI) vwCl (cpWd a kA u.1 u.2) t.heap ∧ va_K (dC, dI) vwCl (cpTy kA) t ∧ va_D A (cpWd a kA u.1 u.2)
theorem cpA_of {a : Nat → Nat} {kA : Nat → ClassId} {M : cM} {L : cL} {sz k : Nat} {q : Nat × va_E} (h : (cpWd a kA M L)[k]? = some q) : cpA a sz q.1 := by
  have hk : k < 16 := (List.getElem?_eq_some_iff.mp h).1
  refine Or.inl ⟨k, hk, ?_⟩
  rcases (show k = 0 ∨ k = 1 ∨ k = 2 ∨ k = 3 ∨ k = 4 ∨ k = 5 ∨ k = 6 ∨ k = 7 ∨ k = 8 ∨ k = 9 ∨ k = 10 ∨ k = 11 ∨ k = 12 ∨ k = 13 ∨ k = 14 ∨ k = 15 by omega) with rfl | rfl | rfl | rfl | rfl | rfl | rfl | rfl | rfl | rfl | rfl | rfl | rfl | rfl | rfl | rfl <;> (cases h; rfl)
theorem cpD_self {a : Nat → Nat} {kA : Nat → ClassId} {M : cM} {L : cL} {sz : Nat} {A : Nat → Prop} (h : va_D A (cpWd a kA M L)) : va_D (cpA a sz) (cpWd a kA M L) := ⟨h.1, fun _ _ hk => cpA_of hk⟩
theorem cpA_mono {a : Nat → Nat} {sz sz' : Nat} (h : sz ≤ sz') (q : Nat) (hq : cpA a sz' q) : cpA a sz q := hq.elim Or.inl (fun z => Or.inr (Nat.le_trans h z))
theorem cpPre_blind {dC : Nat → ClassId} {dI : Nat → Nat → Nat} {a : Nat → Nat} {kA : Nat → ClassId} {t : Nat → Nat} {M : cM} {L : cL} {sz : Nat} {av : List Value} : FrameBlind (va_Pc av (cpPre dC dI a kA t M L sz)) := fun x U g mk q => by
  obtain ⟨h0, h1, h2, h3, h4, h5⟩ := q
  exact ⟨h0, h1, h2, va_K.moved (u := U) (U := U.calling g mk x) (Vm.Alike.refl U.vm) h3, h4, h5.calling⟩
section
variable {p : Program} {l : Launch} {e : Env} {R : Room} {s : State} {m : MethodId} {args : Array Value} {below : List Frame} {meth : Method} {c : Code} {H : Heap} {locs : List Loc} {cells slots : Nat} {Q : State → Prop}
variable {dC : Nat → ClassId} {dI : Nat → Nat → Nat} {a : Nat → Nat} {kA : Nat → ClassId} {t : Nat → Nat} {M : cM} {L : cL} {sz : Nat} {A : Nat → Prop} {cc : ByteArray} {pc : Nat} {ls : Array Slot} {rest st0 : List Value} {mc ms : Nat}
theorem cpenter {y : MethodName} {ws ws' : List Cond} {rm : Room} {n : Nat} {ret : Option FieldType} {Qc : Array Value → State → Outcome → State → Prop} {av : List Value} (hy : plainName y.cls = true) (hw : ws = Cond.code y cc n ret :: ws') (hn : (lg_sl av).length ≤ n)
    (body : ∀ (p : Program) (e : Env) (s : State) (m : MethodId) (below : List Frame) (meth : Method) (c : Code) (ls : Array Slot), p.tables.exec = Jvm.exec → c.code = cc → c.maxLocals = n → meth.sig.returnType = ret → meth.locks = false → s.vm.findClass y.cls = some m.cls → (∀ w ∈ ws, w.before av.toArray s = true) → va_K (dC, dI) vwCl (cpTy kA) s → cpE t (cpA a sz) s → s.heap.size = sz → cpI dC dI a kA (cpA a sz) s M L s.heap [] → lv_has ls n (lv_args 0 av) → meth.name = y.name →
      W p l e rm s m av.toArray below meth c s.heap [] 0 0 (MQ below Qc av.toArray s mc ms (cpA a sz)) (F0 m 0 ls [])) :
    Met l y ws rm (va_Pc av (cpPre dC dI a kA t M L sz)) Qc mc ms (cpA a sz) := by
  refine Met.ofW (cc := cc) (maxL := n) (ret := ret) hy hw ?_
  intro p e s m args below meth c s₁ B hml hv
  obtain ⟨rfl, hsz, hP, hK, hD0, hE⟩ := hv
  have hl := lv_entry av (n := n) hn
  have key := body p e s m below meth c ((lg_sl av ++ List.replicate (n - (lg_sl av).length) Slot.unset).toArray) B.exec B.bytes hml B.returns B.notSynchronized (findClass_of_methodNamed B.named) (atoms_spec (ws := ws) B.pre) hK hE hsz ⟨hP, cpD_self hD0, va_S.rf⟩ hl (name_of_methodNamed B.named B.method).1
  rw [lg_entry_eq]
  exact key
theorem cpiret {Z : Int32 → cM → cL → Prop} {v : Int32} (hexec : p.tables.exec = Jvm.exec) (hb : c.code = cc) (hr : meth.sig.returnType = some .int) (hlocks : meth.locks = false) (hK : va_K (dC, dI) vwCl (cpTy kA) s) (hI : cpI dC dI a kA A s M L H locs) (hdg : decode cc pc = .ok (.ireturn, 1)) (hz : Z v M L) :
    W p l e R s m args below meth c H locs cells slots (MQ below (va_Qi (fun r (u : cM × cL) => Z r u.1 u.2) (cpAt dC dI a kA A) A) args s cells slots A) (F0 m pc ls [.int v]) :=
  W.iret hexec hb hr (fun t ht hW => ⟨⟨v, (M, L), rfl, hz, by rw [ht]; exact hI.1, va_K.moved hW.alike hK, hI.2.1⟩, hI.2.2.F ht⟩) hI.2.2.2.2 hdg hlocks
theorem cpzret {Z : Int32 → cM → cL → Prop} {v : Int32} (hexec : p.tables.exec = Jvm.exec) (hb : c.code = cc) (hr : meth.sig.returnType = some .boolean) (hlocks : meth.locks = false) (hK : va_K (dC, dI) vwCl (cpTy kA) s) (hI : cpI dC dI a kA A s M L H locs) (hdg : decode cc pc = .ok (.ireturn, 1)) (hz : isB v ∧ Z v M L) :
    W p l e R s m args below meth c H locs cells slots (MQ below (va_Qi (fun r (u : cM × cL) => Z r u.1 u.2) (cpAt dC dI a kA A) A) args s cells slots A) (F0 m pc ls [.int v]) :=
  W.zret hexec hb hr hz.1.1 (fun t ht hW => ⟨⟨v, (M, L), rfl, hz.2, by rw [ht]; exact hI.1, va_K.moved hW.alike hK, hI.2.1⟩, hI.2.2.F ht⟩) hI.2.2.2.2 hdg hlocks
theorem cplret {Z : Int64 → cM → cL → Prop} {v : Int64} (hexec : p.tables.exec = Jvm.exec) (hb : c.code = cc) (hr : meth.sig.returnType = some .long) (hlocks : meth.locks = false) (hK : va_K (dC, dI) vwCl (cpTy kA) s) (hI : cpI dC dI a kA A s M L H locs) (hdg : decode cc pc = .ok (.lreturn, 1)) (hz : Z v M L) :
    W p l e R s m args below meth c H locs cells slots (MQ below (va_Ql (fun r (u : cM × cL) => Z r u.1 u.2) (cpAt dC dI a kA A) A) args s cells slots A) (F0 m pc ls [.long v]) :=
  W.lret hexec hb hr (fun t ht hW => ⟨⟨v, (M, L), rfl, hz, by rw [ht]; exact hI.1, va_K.moved hW.alike hK, hI.2.1⟩, hI.2.2.F ht⟩) hI.2.2.2.2 hdg hlocks
theorem cpvret {Z : cM → cL → Prop} (hexec : p.tables.exec = Jvm.exec) (hb : c.code = cc) (hr : meth.sig.returnType = none) (hlocks : meth.locks = false) (hK : va_K (dC, dI) vwCl (cpTy kA) s) (hI : cpI dC dI a kA A s M L H locs) (hdg : decode cc pc = .ok (.return_, 1)) (hz : Z M L) :
    W p l e R s m args below meth c H locs cells slots (MQ below (va_Qv (fun (u : cM × cL) => Z u.1 u.2) (cpAt dC dI a kA A) A) args s cells slots A) (F0 m pc ls []) :=
  W.vret hexec hb hr (fun t ht hW => ⟨⟨(M, L), rfl, hz, by rw [ht]; exact hI.1, va_K.moved hW.alike hK, hI.2.1⟩, hI.2.2.F ht⟩) hI.2.2.2.2 hdg hlocks
/-- what a callee asks: the same world, seen from the heap as it is now -/
theorem cppre {C : String} {k ci : Nat} {As : List Value} {fs : List Value} {qc : vw_C} (hK : va_K (dC, dI) vwCl (cpTy kA) s) (hE : cpE t (cpA a sz) s) (hsz : s.heap.size = sz) (hI : cpI dC dI a kA (cpA a sz) s M L H locs) (hc : vwCl[ci]? = some qc) (he : (cpWd a kA M L)[k]? = some (a k, .inr (ci, fs))) : PreV s H qc.1 (a k) (va_Pc (.ref (a k) :: As) (cpPre dC dI a kA t M L H.size)) As :=
  ⟨cpPre_blind, va_recv hK hI.1 hc he, fun U hU hW => ⟨rfl, by rw [hU], by rw [hU]; exact hI.1, va_K.moved hW.alike hK, hI.2.1.weaken (fun _ _ _ _ => trivial), hE.call hW hU hI.2.2 (cpA_mono (by rw [← hsz]; exact hI.2.2.1))⟩⟩
theorem cppreS {As : List Value} (hK : va_K (dC, dI) vwCl (cpTy kA) s) (hE : cpE t (cpA a sz) s) (hsz : s.heap.size = sz) (hI : cpI dC dI a kA (cpA a sz) s M L H locs) : PreS s H (va_Pc As (cpPre dC dI a kA t M L H.size)) As :=
  ⟨cpPre_blind, fun U hU hW => ⟨rfl, by rw [hU], by rw [hU]; exact hI.1, va_K.moved hW.alike hK, hI.2.1.weaken (fun _ _ _ _ => trivial), hE.call hW hU hI.2.2 (cpA_mono (by rw [← hsz]; exact hI.2.2.1))⟩⟩
theorem cpcalli {Z : Int32 → cM → cL → Prop} {av : Array Value} (hsz : s.heap.size = sz) (hI : cpI dC dI a kA (cpA a sz) s M L H locs) (hr : va_Run p l e R s m args below meth c H locs cells slots mc ms (F0 m pc ls st0) rest (va_Qi (fun r (u : cM × cL) => Z r u.1 u.2) (cpAt dC dI a kA (cpA a H.size)) (cpA a H.size) av) (cpA a H.size))
    (kk : ∀ (r : Int32) (M1 : cM) (L1 : cL) (H1 : Heap) (locs1 : List Loc), Z r M1 L1 → cpI dC dI a kA (cpA a sz) s M1 L1 H1 locs1 → W p l e R s m args below meth c H1 locs1 (cells + mc) (slots + ms) Q (F0 m (pc + 3) ls (.int r :: rest))) : W p l e R s m args below meth c H locs cells slots Q (F0 m pc ls st0) := by
  have hle : sz ≤ H.size := by rw [← hsz]; exact hI.2.2.1
  refine va_calli hr hI.2.2 (fun q _ h => cpA_mono hle q h) (cpA_mono hle) (fun r u t H1 locs1 ht hvm hw hB hz1 hk1 hS => kk r u.1 u.2 H1 locs1 hw ⟨by rw [← ht]; exact hB.1, hB.2.2.weaken (fun _ _ _ h => cpA_mono hle _ h), hS⟩)
theorem cpcalll {Z : Int64 → cM → cL → Prop} {av : Array Value} (hsz : s.heap.size = sz) (hI : cpI dC dI a kA (cpA a sz) s M L H locs) (hr : va_Run p l e R s m args below meth c H locs cells slots mc ms (F0 m pc ls st0) rest (va_Ql (fun r (u : cM × cL) => Z r u.1 u.2) (cpAt dC dI a kA (cpA a H.size)) (cpA a H.size) av) (cpA a H.size))
    (kk : ∀ (r : Int64) (M1 : cM) (L1 : cL) (H1 : Heap) (locs1 : List Loc), Z r M1 L1 → cpI dC dI a kA (cpA a sz) s M1 L1 H1 locs1 → W p l e R s m args below meth c H1 locs1 (cells + mc) (slots + ms) Q (F0 m (pc + 3) ls (.long r :: rest))) : W p l e R s m args below meth c H locs cells slots Q (F0 m pc ls st0) := by
  have hle : sz ≤ H.size := by rw [← hsz]; exact hI.2.2.1
  refine va_calll hr hI.2.2 (fun q _ h => cpA_mono hle q h) (cpA_mono hle) (fun r u t H1 locs1 ht hvm hw hB hz1 hk1 hS => kk r u.1 u.2 H1 locs1 hw ⟨by rw [← ht]; exact hB.1, hB.2.2.weaken (fun _ _ _ h => cpA_mono hle _ h), hS⟩)
theorem cpcallv {Z : cM → cL → Prop} {av : Array Value} (hsz : s.heap.size = sz) (hI : cpI dC dI a kA (cpA a sz) s M L H locs) (hr : va_Run p l e R s m args below meth c H locs cells slots mc ms (F0 m pc ls st0) rest (va_Qv (fun (u : cM × cL) => Z u.1 u.2) (cpAt dC dI a kA (cpA a H.size)) (cpA a H.size) av) (cpA a H.size))
    (kk : ∀ (M1 : cM) (L1 : cL) (H1 : Heap) (locs1 : List Loc), Z M1 L1 → cpI dC dI a kA (cpA a sz) s M1 L1 H1 locs1 → W p l e R s m args below meth c H1 locs1 (cells + mc) (slots + ms) Q (F0 m (pc + 3) ls rest)) : W p l e R s m args below meth c H locs cells slots Q (F0 m pc ls st0) := by
  have hle : sz ≤ H.size := by rw [← hsz]; exact hI.2.2.1
  refine va_callv hr hI.2.2 (fun q _ h => cpA_mono hle q h) (cpA_mono hle) (fun u t H1 locs1 ht hvm hw hB hz1 hk1 hS => kk u.1 u.2 H1 locs1 hw ⟨by rw [← ht]; exact hB.1, hB.2.2.weaken (fun _ _ _ h => cpA_mono hle _ h), hS⟩)
/-- a number into a field -/
theorem cpput (hexec : p.tables.exec = Jvm.exec) (hb : c.code = cc) {own ref C : String} {T : u_T} {N ci index : Nat} {Ts : List Cond} (hts : ∀ w ∈ Ts, w.before args s = true) (hin : ∀ w ∈ u_ws C T N, w ∈ Ts) (ty0 : Nat → FieldType) (hty : ∀ k, k < N → parseFieldDescriptor (T k).2.2.1 = some (ty0 k)) (hnm : ∀ a, a < N → ∀ b, b < N → a ≠ b → (T a).2.1 ≠ (T b).2.1) (hown : s.vm.findClass own = some m.cls) (hK : va_K (dC, dI) vwCl (cpTy kA) s) (hI : cpI dC dI a kA A s M L H locs) (q0 : Nat) {b : Nat} {fs : List Value} (he : (cpWd a kA M L)[q0]? = some (b, .inr (ci, fs))) (hc : vwCl[ci]? = some (C, T, N)) (k : Nat) (hk : k < N) (hlink : (Cond.fieldLink own index ref (T k).2.1 (T k).2.2.1).before args s = true) (hsame : ∀ x, s.fieldFound? (T k).1 (T k).2.1 (T k).2.2.1 = some x → s.fieldFound? ref (T k).2.1 (T k).2.2.1 = some x) (hfin : (T k).2.2.2 = false) {ty : FieldType} {v : Int32} (hd : parseFieldDescriptor (T k).2.2.1 = some ty) (hn : narrow ty (.int v) = .int v) (hfit : fits ty (.int v) = true) (hl : k < fs.length)
    (hset : (cpWd a kA M L).set q0 (b, .inr (ci, fs.set k (.int v))) = cpWd a kA (mu M q0 k v) L) (hdg : decode cc pc = .ok (.putfield index, 3))
    (kk : ∀ (H1 : Heap) (locs1 : List Loc) (M1 : cM), M1 = mu M q0 k v → cpI dC dI a kA A s M1 L H1 locs1 → W p l e R s m args below meth c H1 locs1 cells slots Q (F0 m (pc + 3) ls rest)) : W p l e R s m args below meth c H locs cells slots Q (F0 m pc ls (.int v :: .ref b :: rest)) :=
  va_put (D := (dC, dI)) hexec hb hts hin ty0 hty hnm hown hK hI.1 hI.2.1 hI.2.2 q0 he hc k hk hlink hsame hfin hd hn hfit hl hdg (fun H1 locs1 hP hD hS => kk H1 locs1 _ rfl ⟨hset ▸ hP, hset ▸ hD, hS⟩)
theorem cpputl (hexec : p.tables.exec = Jvm.exec) (hb : c.code = cc) {own ref C : String} {T : u_T} {N ci index : Nat} {Ts : List Cond} (hts : ∀ w ∈ Ts, w.before args s = true) (hin : ∀ w ∈ u_ws C T N, w ∈ Ts) (ty0 : Nat → FieldType) (hty : ∀ k, k < N → parseFieldDescriptor (T k).2.2.1 = some (ty0 k)) (hnm : ∀ a, a < N → ∀ b, b < N → a ≠ b → (T a).2.1 ≠ (T b).2.1) (hown : s.vm.findClass own = some m.cls) (hK : va_K (dC, dI) vwCl (cpTy kA) s) (hI : cpI dC dI a kA A s M L H locs) (q0 : Nat) {b : Nat} {fs : List Value} (he : (cpWd a kA M L)[q0]? = some (b, .inr (ci, fs))) (hc : vwCl[ci]? = some (C, T, N)) (k : Nat) (hk : k < N) (hlink : (Cond.fieldLink own index ref (T k).2.1 (T k).2.2.1).before args s = true) (hsame : ∀ x, s.fieldFound? (T k).1 (T k).2.1 (T k).2.2.1 = some x → s.fieldFound? ref (T k).2.1 (T k).2.2.1 = some x) (hfin : (T k).2.2.2 = false) {ty : FieldType} {v : Int64} (hd : parseFieldDescriptor (T k).2.2.1 = some ty) (hn : narrow ty (.long v) = .long v) (hfit : fits ty (.long v) = true) (hl : k < fs.length)
    (hset : (cpWd a kA M L).set q0 (b, .inr (ci, fs.set k (.long v))) = cpWd a kA M (ml L q0 k v)) (hdg : decode cc pc = .ok (.putfield index, 3))
    (kk : ∀ (H1 : Heap) (locs1 : List Loc) (L1 : cL), L1 = ml L q0 k v → cpI dC dI a kA A s M L1 H1 locs1 → W p l e R s m args below meth c H1 locs1 cells slots Q (F0 m (pc + 3) ls rest)) : W p l e R s m args below meth c H locs cells slots Q (F0 m pc ls (.long v :: .ref b :: rest)) :=
  va_put (D := (dC, dI)) hexec hb hts hin ty0 hty hnm hown hK hI.1 hI.2.1 hI.2.2 q0 he hc k hk hlink hsame hfin hd hn hfit hl hdg (fun H1 locs1 hP hD hS => kk H1 locs1 _ rfl ⟨hset ▸ hP, hset ▸ hD, hS⟩)
theorem cpputN (hexec : p.tables.exec = Jvm.exec) (hb : c.code = cc) {own ref C host : String} {T : u_T} {N ci index : Nat} {Ts : List Cond} (hts : ∀ w ∈ Ts, w.before args s = true) (hin : ∀ w ∈ u_ws C T N, w ∈ Ts) (ty0 : Nat → FieldType) (hty : ∀ k, k < N → parseFieldDescriptor (T k).2.2.1 = some (ty0 k)) (hnm : ∀ a, a < N → ∀ b, b < N → a ≠ b → (T a).2.1 ≠ (T b).2.1) (hown : s.vm.findClass own = some m.cls) (hK : va_K (dC, dI) vwCl (cpTy kA) s) (hI : cpI dC dI a kA A s M L H locs) (q0 : Nat) {b : Nat} {fs : List Value} (he : (cpWd a kA M L)[q0]? = some (b, .inr (ci, fs))) (hc : vwCl[ci]? = some (C, T, N)) (k : Nat) (hk : k < N) (hlink : (Cond.fieldLinkNest own index ref (T k).2.1 (T k).2.2.1 host).before args s = true) (hsame : ∀ x, s.fieldFound? (T k).1 (T k).2.1 (T k).2.2.1 = some x → s.fieldFound? ref (T k).2.1 (T k).2.2.1 = some x) (hfin : (T k).2.2.2 = false) {ty : FieldType} {v : Int32} (hd : parseFieldDescriptor (T k).2.2.1 = some ty) (hn : narrow ty (.int v) = .int v) (hfit : fits ty (.int v) = true) (hl : k < fs.length)
    (hset : (cpWd a kA M L).set q0 (b, .inr (ci, fs.set k (.int v))) = cpWd a kA (mu M q0 k v) L) (hdg : decode cc pc = .ok (.putfield index, 3))
    (kk : ∀ (H1 : Heap) (locs1 : List Loc) (M1 : cM), M1 = mu M q0 k v → cpI dC dI a kA A s M1 L H1 locs1 → W p l e R s m args below meth c H1 locs1 cells slots Q (F0 m (pc + 3) ls rest)) : W p l e R s m args below meth c H locs cells slots Q (F0 m pc ls (.int v :: .ref b :: rest)) :=
  va_putN (D := (dC, dI)) hexec hb hts hin ty0 hty hnm hown hK hI.1 hI.2.1 hI.2.2 q0 he hc k hk hlink hsame hfin hd hn hfit hl hdg (fun H1 locs1 hP hD hS => kk H1 locs1 _ rfl ⟨hset ▸ hP, hset ▸ hD, hS⟩)
theorem cpputlN (hexec : p.tables.exec = Jvm.exec) (hb : c.code = cc) {own ref C host : String} {T : u_T} {N ci index : Nat} {Ts : List Cond} (hts : ∀ w ∈ Ts, w.before args s = true) (hin : ∀ w ∈ u_ws C T N, w ∈ Ts) (ty0 : Nat → FieldType) (hty : ∀ k, k < N → parseFieldDescriptor (T k).2.2.1 = some (ty0 k)) (hnm : ∀ a, a < N → ∀ b, b < N → a ≠ b → (T a).2.1 ≠ (T b).2.1) (hown : s.vm.findClass own = some m.cls) (hK : va_K (dC, dI) vwCl (cpTy kA) s) (hI : cpI dC dI a kA A s M L H locs) (q0 : Nat) {b : Nat} {fs : List Value} (he : (cpWd a kA M L)[q0]? = some (b, .inr (ci, fs))) (hc : vwCl[ci]? = some (C, T, N)) (k : Nat) (hk : k < N) (hlink : (Cond.fieldLinkNest own index ref (T k).2.1 (T k).2.2.1 host).before args s = true) (hsame : ∀ x, s.fieldFound? (T k).1 (T k).2.1 (T k).2.2.1 = some x → s.fieldFound? ref (T k).2.1 (T k).2.2.1 = some x) (hfin : (T k).2.2.2 = false) {ty : FieldType} {v : Int64} (hd : parseFieldDescriptor (T k).2.2.1 = some ty) (hn : narrow ty (.long v) = .long v) (hfit : fits ty (.long v) = true) (hl : k < fs.length)
    (hset : (cpWd a kA M L).set q0 (b, .inr (ci, fs.set k (.long v))) = cpWd a kA M (ml L q0 k v)) (hdg : decode cc pc = .ok (.putfield index, 3))
    (kk : ∀ (H1 : Heap) (locs1 : List Loc) (L1 : cL), L1 = ml L q0 k v → cpI dC dI a kA A s M L1 H1 locs1 → W p l e R s m args below meth c H1 locs1 cells slots Q (F0 m (pc + 3) ls rest)) : W p l e R s m args below meth c H locs cells slots Q (F0 m pc ls (.long v :: .ref b :: rest)) :=
  va_putN (D := (dC, dI)) hexec hb hts hin ty0 hty hnm hown hK hI.1 hI.2.1 hI.2.2 q0 he hc k hk hlink hsame hfin hd hn hfit hl hdg (fun H1 locs1 hP hD hS => kk H1 locs1 _ rfl ⟨hset ▸ hP, hset ▸ hD, hS⟩)
theorem cpbast (hexec : p.tables.exec = Jvm.exec) (hb : c.code = cc) (hK : va_K (dC, dI) vwCl (cpTy kA) s) (hI : cpI dC dI a kA A s M L H locs) (q0 t0 : Nat) {b : Nat} {cA : ClassId} {n : Nat} {f : Nat → Int32} (ha : (cpWd a kA M L)[q0]? = some (b, .inl (cA, n, .inl f))) (ht : (cpTy kA)[t0]? = some (cA, .byte)) {i : Int32} {x : Int32} (hin : vp_in i n) (hset : (cpWd a kA M L).set q0 (b, .inl (cA, n, .inl (upd f i.toNatClampNeg (vp_nar .byte x)))) = cpWd a kA (mu M q0 i.toNatClampNeg (vp_nar .byte x)) L) (hdg : decode cc pc = .ok (.bastore, 1))
    (kk : ∀ (H1 : Heap) (locs1 : List Loc) (M1 : cM), M1 = mu M q0 i.toNatClampNeg (vp_nar .byte x) → cpI dC dI a kA A s M1 L H1 locs1 → W p l e R s m args below meth c H1 locs1 cells slots Q (F0 m (pc + 1) ls rest)) : W p l e R s m args below meth c H locs cells slots Q (F0 m pc ls (.int x :: .int i :: .ref b :: rest)) :=
  va_bast hexec hb hK hI.1 hI.2.1 hI.2.2 q0 t0 ha ht hin hdg (fun H1 locs1 hP hD hS => kk H1 locs1 _ rfl ⟨hset ▸ hP, hset ▸ hD, hS⟩)
theorem cpiast (hexec : p.tables.exec = Jvm.exec) (hb : c.code = cc) (hK : va_K (dC, dI) vwCl (cpTy kA) s) (hI : cpI dC dI a kA A s M L H locs) (q0 t0 : Nat) {b : Nat} {cA : ClassId} {n : Nat} {f : Nat → Int32} (ha : (cpWd a kA M L)[q0]? = some (b, .inl (cA, n, .inl f))) (ht : (cpTy kA)[t0]? = some (cA, .int)) {i : Int32} {x : Int32} (hin : vp_in i n) (hset : (cpWd a kA M L).set q0 (b, .inl (cA, n, .inl (upd f i.toNatClampNeg x))) = cpWd a kA (mu M q0 i.toNatClampNeg x) L) (hdg : decode cc pc = .ok (.iastore, 1))
    (kk : ∀ (H1 : Heap) (locs1 : List Loc) (M1 : cM), M1 = mu M q0 i.toNatClampNeg x → cpI dC dI a kA A s M1 L H1 locs1 → W p l e R s m args below meth c H1 locs1 cells slots Q (F0 m (pc + 1) ls rest)) : W p l e R s m args below meth c H locs cells slots Q (F0 m pc ls (.int x :: .int i :: .ref b :: rest)) :=
  va_iast hexec hb hK hI.1 hI.2.1 hI.2.2 q0 t0 ha ht hin hdg (fun H1 locs1 hP hD hS => kk H1 locs1 _ rfl ⟨hset ▸ hP, hset ▸ hD, hS⟩)
end

def rpWd (a : Nat → Nat) (kA : Nat → ClassId) (M : cM) (L : cL) : va_W := [(a 0, .inr (6, [.int (M 0 0), .ref (a 1), .int (M 0 2), .long (L 0 3), .long (L 0 4), .int (M 0 5), .int (M 0 6), .long (L 0 7), .long (L 0 8), .int (M 0 9), .int (M 0 10), .int (M 0 11), .int (M 0 12), .ref (a 2), .int (M 0 14), .long (L 0 15), .long (L 0 16), .int (M 0 17), .long (L 0 18), .ref (a 3), .int (M 0 20), .ref (a 4), .int (M 0 22), .ref (a 5), .int (M 0 24), .int (M 0 25), .int (M 0 26), .long (L 0 27), .long (L 0 28), .long (L 0 29), .long (L 0 30), .int (M 0 31), .int (M 0 32), .int (M 0 33), .int (M 0 34), .int (M 0 35), .int (M 0 36), .int (M 0 37), .int (M 0 38), .int (M 0 39), .int (M 0 40), .int (M 0 41), .int (M 0 42), .int (M 0 43)])),
  (a 1, .inl (kA 1, 2400, .inl (M 1))),
  (a 2, .inl (kA 2, 11, .inl (M 2))),
  (a 3, .inl (kA 3, 16000, .inl (M 3))),
  (a 4, .inl (kA 4, 101, .inl (M 4))),
  (a 5, .inl (kA 5, 5000, .inl (M 5)))]
def rpTy (kA : Nat → ClassId) : List (ClassId × FieldType) := [(kA 1, .byte), (kA 2, .int), (kA 3, .byte), (kA 4, .int), (kA 5, .byte)]
def rpA (a : Nat → Nat) (sz : Nat) : Nat → Prop := fun q => (∃ k, k < 6 ∧ q = a k) ∨ sz ≤ q
def rpE (t : Nat → Nat) (A : Nat → Prop) (U : State) : Prop := True
theorem rpE.call {t : Nat → Nat} {A B : Nat → Prop} {s U : State} {H : Heap} {locs : List Loc} (h : rpE t A s) (hW : s.WarmedH U.vm) (hU : U.heap = H) (hS : va_S A s.heap H locs) (hB : ∀ q, B q → A q) : rpE t B U := trivial
theorem rpE.calling {t : Nat → Nat} {A : Nat → Prop} {U : State} {g : JFrame} {mk : MethodId} {a : Array Value} (h : rpE t A U) : rpE t A (U.calling g mk a) := trivial

def rpI (dC : Nat → ClassId) (dI : Nat → Nat → Nat) (a : Nat → Nat) (kA : Nat → ClassId) (A : Nat → Prop) (s : State) (M : cM) (L : cL) (H : Heap) (locs : List Loc) : Prop := va_P (dC, dI) vwCl (rpWd a kA M L) H ∧ va_D A (rpWd a kA M L) ∧ va_S A s.heap H locs
def rpPre (dC : Nat → ClassId) (dI : Nat → Nat → Nat) (a : Nat → Nat) (kA : Nat → ClassId) (t : Nat → Nat) (M : cM) (L : cL) (sz : Nat) (U : State) : Prop := U.heap.size = sz ∧ va_P (dC, dI) vwCl (rpWd a kA M L) U.heap ∧ va_K (dC, dI) vwCl (rpTy kA) U ∧ va_D (fun _ => True) (rpWd a kA M L) ∧ rpE t (rpA a sz) U
def rpAt (dC : Nat → ClassId) (dI : Nat → Nat → Nat) (a : Nat → Nat) (kA : Nat → ClassId) (A : Nat → Prop) (u : cM × cL) (t : State) : Prop := va_P (dC, dI) vwCl (rpWd a kA u.1 u.2) t.heap ∧ va_K (dC, dI) vwCl (rpTy kA) t ∧ va_D A (rpWd a kA u.1 u.2)
theorem rpA_of {a : Nat → Nat} {kA : Nat → ClassId} {M : cM} {L : cL} {sz k : Nat} {q : Nat × va_E} (h : (rpWd a kA M L)[k]? = some q) : rpA a sz q.1 := by
  have hk : k < 6 := (List.getElem?_eq_some_iff.mp h).1
  refine Or.inl ⟨k, hk, ?_⟩
  rcases (show k = 0 ∨ k = 1 ∨ k = 2 ∨ k = 3 ∨ k = 4 ∨ k = 5 by omega) with rfl | rfl | rfl | rfl | rfl | rfl <;> (cases h; rfl)
theorem rpD_self {a : Nat → Nat} {kA : Nat → ClassId} {M : cM} {L : cL} {sz : Nat} {A : Nat → Prop} (h : va_D A (rpWd a kA M L)) : va_D (rpA a sz) (rpWd a kA M L) := ⟨h.1, fun _ _ hk => rpA_of hk⟩
theorem rpA_mono {a : Nat → Nat} {sz sz' : Nat} (h : sz ≤ sz') (q : Nat) (hq : rpA a sz' q) : rpA a sz q := hq.elim Or.inl (fun z => Or.inr (Nat.le_trans h z))
theorem rpPre_blind {dC : Nat → ClassId} {dI : Nat → Nat → Nat} {a : Nat → Nat} {kA : Nat → ClassId} {t : Nat → Nat} {M : cM} {L : cL} {sz : Nat} {av : List Value} : FrameBlind (va_Pc av (rpPre dC dI a kA t M L sz)) := fun x U g mk q => by
  obtain ⟨h0, h1, h2, h3, h4, h5⟩ := q
  exact ⟨h0, h1, h2, va_K.moved (u := U) (U := U.calling g mk x) (Vm.Alike.refl U.vm) h3, h4, h5.calling⟩
section
variable {p : Program} {l : Launch} {e : Env} {R : Room} {s : State} {m : MethodId} {args : Array Value} {below : List Frame} {meth : Method} {c : Code} {H : Heap} {locs : List Loc} {cells slots : Nat} {Q : State → Prop}
variable {dC : Nat → ClassId} {dI : Nat → Nat → Nat} {a : Nat → Nat} {kA : Nat → ClassId} {t : Nat → Nat} {M : cM} {L : cL} {sz : Nat} {A : Nat → Prop} {cc : ByteArray} {pc : Nat} {ls : Array Slot} {rest st0 : List Value} {mc ms : Nat}
theorem rpenter {y : MethodName} {ws ws' : List Cond} {rm : Room} {n : Nat} {ret : Option FieldType} {Qc : Array Value → State → Outcome → State → Prop} {av : List Value} (hy : plainName y.cls = true) (hw : ws = Cond.code y cc n ret :: ws') (hn : (lg_sl av).length ≤ n)
    (body : ∀ (p : Program) (e : Env) (s : State) (m : MethodId) (below : List Frame) (meth : Method) (c : Code) (ls : Array Slot), p.tables.exec = Jvm.exec → c.code = cc → c.maxLocals = n → meth.sig.returnType = ret → meth.locks = false → s.vm.findClass y.cls = some m.cls → (∀ w ∈ ws, w.before av.toArray s = true) → va_K (dC, dI) vwCl (rpTy kA) s → rpE t (rpA a sz) s → s.heap.size = sz → rpI dC dI a kA (rpA a sz) s M L s.heap [] → lv_has ls n (lv_args 0 av) → meth.name = y.name →
      W p l e rm s m av.toArray below meth c s.heap [] 0 0 (MQ below Qc av.toArray s mc ms (rpA a sz)) (F0 m 0 ls [])) :
    Met l y ws rm (va_Pc av (rpPre dC dI a kA t M L sz)) Qc mc ms (rpA a sz) := by
  refine Met.ofW (cc := cc) (maxL := n) (ret := ret) hy hw ?_
  intro p e s m args below meth c s₁ B hml hv
  obtain ⟨rfl, hsz, hP, hK, hD0, hE⟩ := hv
  have hl := lv_entry av (n := n) hn
  have key := body p e s m below meth c ((lg_sl av ++ List.replicate (n - (lg_sl av).length) Slot.unset).toArray) B.exec B.bytes hml B.returns B.notSynchronized (findClass_of_methodNamed B.named) (atoms_spec (ws := ws) B.pre) hK hE hsz ⟨hP, rpD_self hD0, va_S.rf⟩ hl (name_of_methodNamed B.named B.method).1
  rw [lg_entry_eq]
  exact key
theorem rpiret {Z : Int32 → cM → cL → Prop} {v : Int32} (hexec : p.tables.exec = Jvm.exec) (hb : c.code = cc) (hr : meth.sig.returnType = some .int) (hlocks : meth.locks = false) (hK : va_K (dC, dI) vwCl (rpTy kA) s) (hI : rpI dC dI a kA A s M L H locs) (hdg : decode cc pc = .ok (.ireturn, 1)) (hz : Z v M L) :
    W p l e R s m args below meth c H locs cells slots (MQ below (va_Qi (fun r (u : cM × cL) => Z r u.1 u.2) (rpAt dC dI a kA A) A) args s cells slots A) (F0 m pc ls [.int v]) :=
  W.iret hexec hb hr (fun t ht hW => ⟨⟨v, (M, L), rfl, hz, by rw [ht]; exact hI.1, va_K.moved hW.alike hK, hI.2.1⟩, hI.2.2.F ht⟩) hI.2.2.2.2 hdg hlocks
theorem rpzret {Z : Int32 → cM → cL → Prop} {v : Int32} (hexec : p.tables.exec = Jvm.exec) (hb : c.code = cc) (hr : meth.sig.returnType = some .boolean) (hlocks : meth.locks = false) (hK : va_K (dC, dI) vwCl (rpTy kA) s) (hI : rpI dC dI a kA A s M L H locs) (hdg : decode cc pc = .ok (.ireturn, 1)) (hz : isB v ∧ Z v M L) :
    W p l e R s m args below meth c H locs cells slots (MQ below (va_Qi (fun r (u : cM × cL) => Z r u.1 u.2) (rpAt dC dI a kA A) A) args s cells slots A) (F0 m pc ls [.int v]) :=
  W.zret hexec hb hr hz.1.1 (fun t ht hW => ⟨⟨v, (M, L), rfl, hz.2, by rw [ht]; exact hI.1, va_K.moved hW.alike hK, hI.2.1⟩, hI.2.2.F ht⟩) hI.2.2.2.2 hdg hlocks
theorem rplret {Z : Int64 → cM → cL → Prop} {v : Int64} (hexec : p.tables.exec = Jvm.exec) (hb : c.code = cc) (hr : meth.sig.returnType = some .long) (hlocks : meth.locks = false) (hK : va_K (dC, dI) vwCl (rpTy kA) s) (hI : rpI dC dI a kA A s M L H locs) (hdg : decode cc pc = .ok (.lreturn, 1)) (hz : Z v M L) :
    W p l e R s m args below meth c H locs cells slots (MQ below (va_Ql (fun r (u : cM × cL) => Z r u.1 u.2) (rpAt dC dI a kA A) A) args s cells slots A) (F0 m pc ls [.long v]) :=
  W.lret hexec hb hr (fun t ht hW => ⟨⟨v, (M, L), rfl, hz, by rw [ht]; exact hI.1, va_K.moved hW.alike hK, hI.2.1⟩, hI.2.2.F ht⟩) hI.2.2.2.2 hdg hlocks
theorem rpvret {Z : cM → cL → Prop} (hexec : p.tables.exec = Jvm.exec) (hb : c.code = cc) (hr : meth.sig.returnType = none) (hlocks : meth.locks = false) (hK : va_K (dC, dI) vwCl (rpTy kA) s) (hI : rpI dC dI a kA A s M L H locs) (hdg : decode cc pc = .ok (.return_, 1)) (hz : Z M L) :
    W p l e R s m args below meth c H locs cells slots (MQ below (va_Qv (fun (u : cM × cL) => Z u.1 u.2) (rpAt dC dI a kA A) A) args s cells slots A) (F0 m pc ls []) :=
  W.vret hexec hb hr (fun t ht hW => ⟨⟨(M, L), rfl, hz, by rw [ht]; exact hI.1, va_K.moved hW.alike hK, hI.2.1⟩, hI.2.2.F ht⟩) hI.2.2.2.2 hdg hlocks
/-- what a callee asks: the same world, seen from the heap as it is now -/
theorem rppre {C : String} {k ci : Nat} {As : List Value} {fs : List Value} {qc : vw_C} (hK : va_K (dC, dI) vwCl (rpTy kA) s) (hE : rpE t (rpA a sz) s) (hsz : s.heap.size = sz) (hI : rpI dC dI a kA (rpA a sz) s M L H locs) (hc : vwCl[ci]? = some qc) (he : (rpWd a kA M L)[k]? = some (a k, .inr (ci, fs))) : PreV s H qc.1 (a k) (va_Pc (.ref (a k) :: As) (rpPre dC dI a kA t M L H.size)) As :=
  ⟨rpPre_blind, va_recv hK hI.1 hc he, fun U hU hW => ⟨rfl, by rw [hU], by rw [hU]; exact hI.1, va_K.moved hW.alike hK, hI.2.1.weaken (fun _ _ _ _ => trivial), hE.call hW hU hI.2.2 (rpA_mono (by rw [← hsz]; exact hI.2.2.1))⟩⟩
theorem rppreS {As : List Value} (hK : va_K (dC, dI) vwCl (rpTy kA) s) (hE : rpE t (rpA a sz) s) (hsz : s.heap.size = sz) (hI : rpI dC dI a kA (rpA a sz) s M L H locs) : PreS s H (va_Pc As (rpPre dC dI a kA t M L H.size)) As :=
  ⟨rpPre_blind, fun U hU hW => ⟨rfl, by rw [hU], by rw [hU]; exact hI.1, va_K.moved hW.alike hK, hI.2.1.weaken (fun _ _ _ _ => trivial), hE.call hW hU hI.2.2 (rpA_mono (by rw [← hsz]; exact hI.2.2.1))⟩⟩
theorem rpcalli {Z : Int32 → cM → cL → Prop} {av : Array Value} (hsz : s.heap.size = sz) (hI : rpI dC dI a kA (rpA a sz) s M L H locs) (hr : va_Run p l e R s m args below meth c H locs cells slots mc ms (F0 m pc ls st0) rest (va_Qi (fun r (u : cM × cL) => Z r u.1 u.2) (rpAt dC dI a kA (rpA a H.size)) (rpA a H.size) av) (rpA a H.size))
    (kk : ∀ (r : Int32) (M1 : cM) (L1 : cL) (H1 : Heap) (locs1 : List Loc), Z r M1 L1 → rpI dC dI a kA (rpA a sz) s M1 L1 H1 locs1 → W p l e R s m args below meth c H1 locs1 (cells + mc) (slots + ms) Q (F0 m (pc + 3) ls (.int r :: rest))) : W p l e R s m args below meth c H locs cells slots Q (F0 m pc ls st0) := by
  have hle : sz ≤ H.size := by rw [← hsz]; exact hI.2.2.1
  refine va_calli hr hI.2.2 (fun q _ h => rpA_mono hle q h) (rpA_mono hle) (fun r u t H1 locs1 ht hvm hw hB hz1 hk1 hS => kk r u.1 u.2 H1 locs1 hw ⟨by rw [← ht]; exact hB.1, hB.2.2.weaken (fun _ _ _ h => rpA_mono hle _ h), hS⟩)
theorem rpcalll {Z : Int64 → cM → cL → Prop} {av : Array Value} (hsz : s.heap.size = sz) (hI : rpI dC dI a kA (rpA a sz) s M L H locs) (hr : va_Run p l e R s m args below meth c H locs cells slots mc ms (F0 m pc ls st0) rest (va_Ql (fun r (u : cM × cL) => Z r u.1 u.2) (rpAt dC dI a kA (rpA a H.size)) (rpA a H.size) av) (rpA a H.size))
    (kk : ∀ (r : Int64) (M1 : cM) (L1 : cL) (H1 : Heap) (locs1 : List Loc), Z r M1 L1 → rpI dC dI a kA (rpA a sz) s M1 L1 H1 locs1 → W p l e R s m args below meth c H1 locs1 (cells + mc) (slots + ms) Q (F0 m (pc + 3) ls (.long r :: rest))) : W p l e R s m args below meth c H locs cells slots Q (F0 m pc ls st0) := by
  have hle : sz ≤ H.size := by rw [← hsz]; exact hI.2.2.1
  refine va_calll hr hI.2.2 (fun q _ h => rpA_mono hle q h) (rpA_mono hle) (fun r u t H1 locs1 ht hvm hw hB hz1 hk1 hS => kk r u.1 u.2 H1 locs1 hw ⟨by rw [← ht]; exact hB.1, hB.2.2.weaken (fun _ _ _ h => rpA_mono hle _ h), hS⟩)
theorem rpcallv {Z : cM → cL → Prop} {av : Array Value} (hsz : s.heap.size = sz) (hI : rpI dC dI a kA (rpA a sz) s M L H locs) (hr : va_Run p l e R s m args below meth c H locs cells slots mc ms (F0 m pc ls st0) rest (va_Qv (fun (u : cM × cL) => Z u.1 u.2) (rpAt dC dI a kA (rpA a H.size)) (rpA a H.size) av) (rpA a H.size))
    (kk : ∀ (M1 : cM) (L1 : cL) (H1 : Heap) (locs1 : List Loc), Z M1 L1 → rpI dC dI a kA (rpA a sz) s M1 L1 H1 locs1 → W p l e R s m args below meth c H1 locs1 (cells + mc) (slots + ms) Q (F0 m (pc + 3) ls rest)) : W p l e R s m args below meth c H locs cells slots Q (F0 m pc ls st0) := by
  have hle : sz ≤ H.size := by rw [← hsz]; exact hI.2.2.1
  refine va_callv hr hI.2.2 (fun q _ h => rpA_mono hle q h) (rpA_mono hle) (fun u t H1 locs1 ht hvm hw hB hz1 hk1 hS => kk u.1 u.2 H1 locs1 hw ⟨by rw [← ht]; exact hB.1, hB.2.2.weaken (fun _ _ _ h => rpA_mono hle _ h), hS⟩)
/-- a number into a field -/
theorem rpput (hexec : p.tables.exec = Jvm.exec) (hb : c.code = cc) {own ref C : String} {T : u_T} {N ci index : Nat} {Ts : List Cond} (hts : ∀ w ∈ Ts, w.before args s = true) (hin : ∀ w ∈ u_ws C T N, w ∈ Ts) (ty0 : Nat → FieldType) (hty : ∀ k, k < N → parseFieldDescriptor (T k).2.2.1 = some (ty0 k)) (hnm : ∀ a, a < N → ∀ b, b < N → a ≠ b → (T a).2.1 ≠ (T b).2.1) (hown : s.vm.findClass own = some m.cls) (hK : va_K (dC, dI) vwCl (rpTy kA) s) (hI : rpI dC dI a kA A s M L H locs) (q0 : Nat) {b : Nat} {fs : List Value} (he : (rpWd a kA M L)[q0]? = some (b, .inr (ci, fs))) (hc : vwCl[ci]? = some (C, T, N)) (k : Nat) (hk : k < N) (hlink : (Cond.fieldLink own index ref (T k).2.1 (T k).2.2.1).before args s = true) (hsame : ∀ x, s.fieldFound? (T k).1 (T k).2.1 (T k).2.2.1 = some x → s.fieldFound? ref (T k).2.1 (T k).2.2.1 = some x) (hfin : (T k).2.2.2 = false) {ty : FieldType} {v : Int32} (hd : parseFieldDescriptor (T k).2.2.1 = some ty) (hn : narrow ty (.int v) = .int v) (hfit : fits ty (.int v) = true) (hl : k < fs.length)
    (hset : (rpWd a kA M L).set q0 (b, .inr (ci, fs.set k (.int v))) = rpWd a kA (mu M q0 k v) L) (hdg : decode cc pc = .ok (.putfield index, 3))
    (kk : ∀ (H1 : Heap) (locs1 : List Loc) (M1 : cM), M1 = mu M q0 k v → rpI dC dI a kA A s M1 L H1 locs1 → W p l e R s m args below meth c H1 locs1 cells slots Q (F0 m (pc + 3) ls rest)) : W p l e R s m args below meth c H locs cells slots Q (F0 m pc ls (.int v :: .ref b :: rest)) :=
  va_put (D := (dC, dI)) hexec hb hts hin ty0 hty hnm hown hK hI.1 hI.2.1 hI.2.2 q0 he hc k hk hlink hsame hfin hd hn hfit hl hdg (fun H1 locs1 hP hD hS => kk H1 locs1 _ rfl ⟨hset ▸ hP, hset ▸ hD, hS⟩)
theorem rpputl (hexec : p.tables.exec = Jvm.exec) (hb : c.code = cc) {own ref C : String} {T : u_T} {N ci index : Nat} {Ts : List Cond} (hts : ∀ w ∈ Ts, w.before args s = true) (hin : ∀ w ∈ u_ws C T N, w ∈ Ts) (ty0 : Nat → FieldType) (hty : ∀ k, k < N → parseFieldDescriptor (T k).2.2.1 = some (ty0 k)) (hnm : ∀ a, a < N → ∀ b, b < N → a ≠ b → (T a).2.1 ≠ (T b).2.1) (hown : s.vm.findClass own = some m.cls) (hK : va_K (dC, dI) vwCl (rpTy kA) s) (hI : rpI dC dI a kA A s M L H locs) (q0 : Nat) {b : Nat} {fs : List Value} (he : (rpWd a kA M L)[q0]? = some (b, .inr (ci, fs))) (hc : vwCl[ci]? = some (C, T, N)) (k : Nat) (hk : k < N) (hlink : (Cond.fieldLink own index ref (T k).2.1 (T k).2.2.1).before args s = true) (hsame : ∀ x, s.fieldFound? (T k).1 (T k).2.1 (T k).2.2.1 = some x → s.fieldFound? ref (T k).2.1 (T k).2.2.1 = some x) (hfin : (T k).2.2.2 = false) {ty : FieldType} {v : Int64} (hd : parseFieldDescriptor (T k).2.2.1 = some ty) (hn : narrow ty (.long v) = .long v) (hfit : fits ty (.long v) = true) (hl : k < fs.length)
    (hset : (rpWd a kA M L).set q0 (b, .inr (ci, fs.set k (.long v))) = rpWd a kA M (ml L q0 k v)) (hdg : decode cc pc = .ok (.putfield index, 3))
    (kk : ∀ (H1 : Heap) (locs1 : List Loc) (L1 : cL), L1 = ml L q0 k v → rpI dC dI a kA A s M L1 H1 locs1 → W p l e R s m args below meth c H1 locs1 cells slots Q (F0 m (pc + 3) ls rest)) : W p l e R s m args below meth c H locs cells slots Q (F0 m pc ls (.long v :: .ref b :: rest)) :=
  va_put (D := (dC, dI)) hexec hb hts hin ty0 hty hnm hown hK hI.1 hI.2.1 hI.2.2 q0 he hc k hk hlink hsame hfin hd hn hfit hl hdg (fun H1 locs1 hP hD hS => kk H1 locs1 _ rfl ⟨hset ▸ hP, hset ▸ hD, hS⟩)
theorem rpputN (hexec : p.tables.exec = Jvm.exec) (hb : c.code = cc) {own ref C host : String} {T : u_T} {N ci index : Nat} {Ts : List Cond} (hts : ∀ w ∈ Ts, w.before args s = true) (hin : ∀ w ∈ u_ws C T N, w ∈ Ts) (ty0 : Nat → FieldType) (hty : ∀ k, k < N → parseFieldDescriptor (T k).2.2.1 = some (ty0 k)) (hnm : ∀ a, a < N → ∀ b, b < N → a ≠ b → (T a).2.1 ≠ (T b).2.1) (hown : s.vm.findClass own = some m.cls) (hK : va_K (dC, dI) vwCl (rpTy kA) s) (hI : rpI dC dI a kA A s M L H locs) (q0 : Nat) {b : Nat} {fs : List Value} (he : (rpWd a kA M L)[q0]? = some (b, .inr (ci, fs))) (hc : vwCl[ci]? = some (C, T, N)) (k : Nat) (hk : k < N) (hlink : (Cond.fieldLinkNest own index ref (T k).2.1 (T k).2.2.1 host).before args s = true) (hsame : ∀ x, s.fieldFound? (T k).1 (T k).2.1 (T k).2.2.1 = some x → s.fieldFound? ref (T k).2.1 (T k).2.2.1 = some x) (hfin : (T k).2.2.2 = false) {ty : FieldType} {v : Int32} (hd : parseFieldDescriptor (T k).2.2.1 = some ty) (hn : narrow ty (.int v) = .int v) (hfit : fits ty (.int v) = true) (hl : k < fs.length)
    (hset : (rpWd a kA M L).set q0 (b, .inr (ci, fs.set k (.int v))) = rpWd a kA (mu M q0 k v) L) (hdg : decode cc pc = .ok (.putfield index, 3))
    (kk : ∀ (H1 : Heap) (locs1 : List Loc) (M1 : cM), M1 = mu M q0 k v → rpI dC dI a kA A s M1 L H1 locs1 → W p l e R s m args below meth c H1 locs1 cells slots Q (F0 m (pc + 3) ls rest)) : W p l e R s m args below meth c H locs cells slots Q (F0 m pc ls (.int v :: .ref b :: rest)) :=
  va_putN (D := (dC, dI)) hexec hb hts hin ty0 hty hnm hown hK hI.1 hI.2.1 hI.2.2 q0 he hc k hk hlink hsame hfin hd hn hfit hl hdg (fun H1 locs1 hP hD hS => kk H1 locs1 _ rfl ⟨hset ▸ hP, hset ▸ hD, hS⟩)
theorem rpputlN (hexec : p.tables.exec = Jvm.exec) (hb : c.code = cc) {own ref C host : String} {T : u_T} {N ci index : Nat} {Ts : List Cond} (hts : ∀ w ∈ Ts, w.before args s = true) (hin : ∀ w ∈ u_ws C T N, w ∈ Ts) (ty0 : Nat → FieldType) (hty : ∀ k, k < N → parseFieldDescriptor (T k).2.2.1 = some (ty0 k)) (hnm : ∀ a, a < N → ∀ b, b < N → a ≠ b → (T a).2.1 ≠ (T b).2.1) (hown : s.vm.findClass own = some m.cls) (hK : va_K (dC, dI) vwCl (rpTy kA) s) (hI : rpI dC dI a kA A s M L H locs) (q0 : Nat) {b : Nat} {fs : List Value} (he : (rpWd a kA M L)[q0]? = some (b, .inr (ci, fs))) (hc : vwCl[ci]? = some (C, T, N)) (k : Nat) (hk : k < N) (hlink : (Cond.fieldLinkNest own index ref (T k).2.1 (T k).2.2.1 host).before args s = true) (hsame : ∀ x, s.fieldFound? (T k).1 (T k).2.1 (T k).2.2.1 = some x → s.fieldFound? ref (T k).2.1 (T k).2.2.1 = some x) (hfin : (T k).2.2.2 = false) {ty : FieldType} {v : Int64} (hd : parseFieldDescriptor (T k).2.2.1 = some ty) (hn : narrow ty (.long v) = .long v) (hfit : fits ty (.long v) = true) (hl : k < fs.length)
    (hset : (rpWd a kA M L).set q0 (b, .inr (ci, fs.set k (.long v))) = rpWd a kA M (ml L q0 k v)) (hdg : decode cc pc = .ok (.putfield index, 3))
    (kk : ∀ (H1 : Heap) (locs1 : List Loc) (L1 : cL), L1 = ml L q0 k v → rpI dC dI a kA A s M L1 H1 locs1 → W p l e R s m args below meth c H1 locs1 cells slots Q (F0 m (pc + 3) ls rest)) : W p l e R s m args below meth c H locs cells slots Q (F0 m pc ls (.long v :: .ref b :: rest)) :=
  va_putN (D := (dC, dI)) hexec hb hts hin ty0 hty hnm hown hK hI.1 hI.2.1 hI.2.2 q0 he hc k hk hlink hsame hfin hd hn hfit hl hdg (fun H1 locs1 hP hD hS => kk H1 locs1 _ rfl ⟨hset ▸ hP, hset ▸ hD, hS⟩)
theorem rpbast (hexec : p.tables.exec = Jvm.exec) (hb : c.code = cc) (hK : va_K (dC, dI) vwCl (rpTy kA) s) (hI : rpI dC dI a kA A s M L H locs) (q0 t0 : Nat) {b : Nat} {cA : ClassId} {n : Nat} {f : Nat → Int32} (ha : (rpWd a kA M L)[q0]? = some (b, .inl (cA, n, .inl f))) (ht : (rpTy kA)[t0]? = some (cA, .byte)) {i : Int32} {x : Int32} (hin : vp_in i n) (hset : (rpWd a kA M L).set q0 (b, .inl (cA, n, .inl (upd f i.toNatClampNeg (vp_nar .byte x)))) = rpWd a kA (mu M q0 i.toNatClampNeg (vp_nar .byte x)) L) (hdg : decode cc pc = .ok (.bastore, 1))
    (kk : ∀ (H1 : Heap) (locs1 : List Loc) (M1 : cM), M1 = mu M q0 i.toNatClampNeg (vp_nar .byte x) → rpI dC dI a kA A s M1 L H1 locs1 → W p l e R s m args below meth c H1 locs1 cells slots Q (F0 m (pc + 1) ls rest)) : W p l e R s m args below meth c H locs cells slots Q (F0 m pc ls (.int x :: .int i :: .ref b :: rest)) :=
  va_bast hexec hb hK hI.1 hI.2.1 hI.2.2 q0 t0 ha ht hin hdg (fun H1 locs1 hP hD hS => kk H1 locs1 _ rfl ⟨hset ▸ hP, hset ▸ hD, hS⟩)
theorem rpiast (hexec : p.tables.exec = Jvm.exec) (hb : c.code = cc) (hK : va_K (dC, dI) vwCl (rpTy kA) s) (hI : rpI dC dI a kA A s M L H locs) (q0 t0 : Nat) {b : Nat} {cA : ClassId} {n : Nat} {f : Nat → Int32} (ha : (rpWd a kA M L)[q0]? = some (b, .inl (cA, n, .inl f))) (ht : (rpTy kA)[t0]? = some (cA, .int)) {i : Int32} {x : Int32} (hin : vp_in i n) (hset : (rpWd a kA M L).set q0 (b, .inl (cA, n, .inl (upd f i.toNatClampNeg x))) = rpWd a kA (mu M q0 i.toNatClampNeg x) L) (hdg : decode cc pc = .ok (.iastore, 1))
    (kk : ∀ (H1 : Heap) (locs1 : List Loc) (M1 : cM), M1 = mu M q0 i.toNatClampNeg x → rpI dC dI a kA A s M1 L H1 locs1 → W p l e R s m args below meth c H1 locs1 cells slots Q (F0 m (pc + 1) ls rest)) : W p l e R s m args below meth c H locs cells slots Q (F0 m pc ls (.int x :: .int i :: .ref b :: rest)) :=
  va_iast hexec hb hK hI.1 hI.2.1 hI.2.2 q0 t0 ha ht hin hdg (fun H1 locs1 hP hD hS => kk H1 locs1 _ rfl ⟨hset ▸ hP, hset ▸ hD, hS⟩)
end

