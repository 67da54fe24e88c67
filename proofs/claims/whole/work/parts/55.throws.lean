def cpBad : List Cond := [.castable "java/lang/IllegalStateException" "java/lang/IllegalStateException", .castable "java/lang/IllegalArgumentException" "java/lang/IllegalArgumentException", .castable "java/lang/IndexOutOfBoundsException" "java/lang/IndexOutOfBoundsException", .declares ⟨"java/lang/RuntimeException", "<init>", "(Ljava/lang/String;)V"⟩, .declares ⟨"java/lang/Exception", "<init>", "(Ljava/lang/String;)V"⟩, .declares ⟨"java/lang/Throwable", "<init>", "(Ljava/lang/String;)V"⟩]
def cpIsBad (w : Cond) : Bool := match w with
  | .castable .. => true
  | .declares .. => true
  | _ => false
theorem cpBad_all : cpBad.all cpIsBad = true := by decide +kernel
theorem cpBad_warm {w : Cond} (hw : cpIsBad w = true) {s U : State} (hW : s.WarmedH U.vm) (h : va_Nw w s) : va_Nw w U := by
  cases w <;> first | exact va_Nw.warmC hW h | exact va_Nw.warmD hW h | cases hw
theorem cpBad_tab {w : Cond} (hw : cpIsBad w = true) : w.onTables = true := by
  cases w <;> first | rfl | cases hw
def cpX (sa : Nat → Nat) (A : Nat → Prop) (U : State) : Prop := (∀ w ∈ cpBad, va_Nw w U) ∧ vx_Zq Bundle.tN "UNASSIGNED_STACK" Bundle.steD A U U.heap ∧ vx_Zq Bundle.tN "SUPPRESSED_SENTINEL" Bundle.listD A U U.heap ∧ vk_R RX6 94 "the tape would have more than 2400 bytes" (sa 0) U ∧ vk_R RX6 105 "the tape has not so many bytes" (sa 1) U ∧ vk_R RX6 112 "no prefix" (sa 2) U ∧ vk_R RX6 123 "a limit out of its range" (sa 3) U ∧ vk_R RX6 149 "no such byte" (sa 4) U ∧ vk_R RX6 161 "no such bytes" (sa 5) U
theorem cpX.call {sa : Nat → Nat} {A B : Nat → Prop} {s U : State} {H : Heap} {locs : List Loc} (h : cpX sa A s) (hW : s.WarmedH U.vm) (hU : U.heap = H) (hS : va_S A s.heap H locs) (hB : ∀ q, B q → A q) : cpX sa B U := by
  obtain ⟨h1, h2, h3, k0, k1, k2, k3, k4, k5⟩ := h
  refine ⟨fun w hw => cpBad_warm (List.all_eq_true.mp cpBad_all w hw) hW (h1 w hw), ?_, ?_, k0.warm hW, k1.warm hW, k2.warm hW, k3.warm hW, k4.warm hW, k5.warm hW⟩
  · rw [hU]; exact ((vx_Zq.moved hW.alike h2).kept hS.2.1).narrow hB
  · rw [hU]; exact ((vx_Zq.moved hW.alike h3).kept hS.2.1).narrow hB
theorem cpX.calling {sa : Nat → Nat} {A : Nat → Prop} {U : State} {g : JFrame} {mk : MethodId} {a : Array Value} (h : cpX sa A U) : cpX sa A (U.calling g mk a) := by
  obtain ⟨h1, h2, h3, k0, k1, k2, k3, k4, k5⟩ := h
  have hv : (U.calling g mk a).vm = U.vm := rfl
  exact ⟨fun w hw => va_Nw.same (cpBad_tab (List.all_eq_true.mp cpBad_all w hw)) hv.symm (h1 w hw), vx_Zq.moved (u := U) (U := U.calling g mk a) (Vm.Alike.refl U.vm) h2, vx_Zq.moved (u := U) (U := U.calling g mk a) (Vm.Alike.refl U.vm) h3, vk_R.same hv k0, vk_R.same hv k1, vk_R.same hv k2, vk_R.same hv k3, vk_R.same hv k4, vk_R.same hv k5⟩
def cpPreX (dC : Nat → ClassId) (dI : Nat → Nat → Nat) (a : Nat → Nat) (kA : Nat → ClassId) (t sa : Nat → Nat) (M : cM) (L : cL) (sz : Nat) (U : State) : Prop := cpPre dC dI a kA t M L sz U ∧ cpX sa (cpA a sz) U
/-- thrown: the class E0, nothing of the world has changed, and X holds -/
def cpXC (dC : Nat → ClassId) (dI : Nat → Nat → Nat) (a : Nat → Nat) (kA : Nat → ClassId) (sz : Nat) (M : cM) (L : cL) (E0 : String) (X : Prop) : String → State → State → Prop := vx_X (fun (_ : Unit) => X) (fun E (_ : Unit) t => E = E0 ∧ cpAt dC dI a kA (cpA a sz) (M, L) t) (cpA a sz)
theorem cpPreX_blind {dC : Nat → ClassId} {dI : Nat → Nat → Nat} {a : Nat → Nat} {kA : Nat → ClassId} {t sa : Nat → Nat} {M : cM} {L : cL} {sz : Nat} {av : List Value} : FrameBlind (va_Pc av (cpPreX dC dI a kA t sa M L sz)) := fun x U g mk q => by
  obtain ⟨h0, ⟨h1, h2, h3, h4, h5⟩, h6⟩ := q
  exact ⟨h0, ⟨h1, h2, va_K.moved (u := U) (U := U.calling g mk x) (Vm.Alike.refl U.vm) h3, h4, h5.calling⟩, h6.calling⟩
section
variable {p : Program} {l : Launch} {e : Env} {R : Room} {s : State} {m : MethodId} {args : Array Value} {below : List Frame} {meth : Method} {c : Code} {H : Heap} {locs : List Loc} {cells slots : Nat} {Q : State → Prop}
variable {dC : Nat → ClassId} {dI : Nat → Nat → Nat} {a : Nat → Nat} {kA : Nat → ClassId} {t sa : Nat → Nat} {M : cM} {L : cL} {sz : Nat} {A : Nat → Prop} {cc : ByteArray} {pc : Nat} {ls : Array Slot} {rest st0 : List Value} {mc ms : Nat}
theorem cpenterX {y : MethodName} {ws ws' : List Cond} {rm : Room} {n : Nat} {ret : Option FieldType} {Qc : Array Value → State → Outcome → State → Prop} {XC : String → State → State → Prop} {av : List Value} (hy : plainName y.cls = true) (hw : ws = Cond.code y cc n ret :: ws') (hn : (lg_sl av).length ≤ n)
    (body : ∀ (p : Program) (e : Env) (s : State) (m : MethodId) (below : List Frame) (meth : Method) (c : Code) (ls : Array Slot), p.tables.exec = Jvm.exec → c.code = cc → c.maxLocals = n → meth.sig.returnType = ret → meth.locks = false → s.vm.findClass y.cls = some m.cls → (∀ w ∈ ws, w.before av.toArray s = true) → va_K (dC, dI) vwCl (cpTy kA) s → cpE t (cpA a sz) s → s.heap.size = sz → cpI dC dI a kA (cpA a sz) s M L s.heap [] → lv_has ls n (lv_args 0 av) → meth.name = y.name → (∀ x ∈ c.exceptionTable.toList, False) → cpX sa (cpA a sz) s →
      W p l e rm s m av.toArray below meth c s.heap [] 0 0 (vx_MQ below Qc XC av.toArray s mc ms (cpA a sz)) (F0 m 0 ls [])) :
    vx_Met l y ws rm (va_Pc av (cpPreX dC dI a kA t sa M L sz)) Qc XC mc ms (cpA a sz) := by
  refine vx_ofW (cc := cc) (maxL := n) (ret := ret) hy hw ?_
  intro p e s m args below meth c s₁ B hml hnoh hv
  obtain ⟨rfl, ⟨hsz, hP, hK, hD0, hE⟩, hX⟩ := hv
  have hl := lv_entry av (n := n) hn
  have key := body p e s m below meth c ((lg_sl av ++ List.replicate (n - (lg_sl av).length) Slot.unset).toArray) B.exec B.bytes hml B.returns B.notSynchronized (findClass_of_methodNamed B.named) (atoms_spec (ws := ws) B.pre) hK hE hsz ⟨hP, cpD_self hD0, va_S.rf⟩ hl (name_of_methodNamed B.named B.method).1 hnoh hX
  rw [lg_entry_eq]
  exact key
theorem cpxc {E0 : String} {X : Prop} (hK : va_K (dC, dI) vwCl (cpTy kA) s) (hI : cpI dC dI a kA (cpA a sz) s M L H locs) (h : X) (u : State) (hv : s.vm.Alike u.vm) (hz : H.size ≤ u.heap.size) (hk : ∀ q : Nat, q < H.size → u.heap[q]? = H[q]?) : cpXC dC dI a kA sz M L E0 X E0 s u :=
  ⟨(), h, ⟨rfl, hI.1.kept (fun k q hq => hk q.1 (hI.1 k q hq).lt), va_K.moved hv hK, hI.2.1⟩, Nat.le_trans hI.2.2.1 hz, fun q h1 h2 => (hk q (Nat.lt_of_lt_of_le h1 hI.2.2.1)).trans (hI.2.2.2.1 q h1 h2)⟩
end
theorem cphat_96 {args : Array Value} {s : State} (hu : ∀ w ∈ uW, w.before args s = true) (hb : ∀ w ∈ cpBad, va_Nw w s) : ∀ w ∈ vx_atS RX6 96 "java/lang/IllegalStateException" ["java/lang/RuntimeException", "java/lang/Exception"], w.before args s = true := vx_hat (L := vx_atS RX6 96 "java/lang/IllegalStateException" ["java/lang/RuntimeException", "java/lang/Exception"]) (B := cpBad) (fun w hw => hu w (um_12 w hw)) (by decide +kernel) (fun w hw => va_Nw.use (cpBad_tab (List.all_eq_true.mp cpBad_all w hw)) (hb w hw))
theorem cphat_107 {args : Array Value} {s : State} (hu : ∀ w ∈ uW, w.before args s = true) (hb : ∀ w ∈ cpBad, va_Nw w s) : ∀ w ∈ vx_atS RX6 107 "java/lang/IllegalArgumentException" ["java/lang/RuntimeException", "java/lang/Exception"], w.before args s = true := vx_hat (L := vx_atS RX6 107 "java/lang/IllegalArgumentException" ["java/lang/RuntimeException", "java/lang/Exception"]) (B := cpBad) (fun w hw => hu w (um_13 w hw)) (by decide +kernel) (fun w hw => va_Nw.use (cpBad_tab (List.all_eq_true.mp cpBad_all w hw)) (hb w hw))
theorem cphat_151 {args : Array Value} {s : State} (hu : ∀ w ∈ uW, w.before args s = true) (hb : ∀ w ∈ cpBad, va_Nw w s) : ∀ w ∈ vx_atS RX6 151 "java/lang/IndexOutOfBoundsException" ["java/lang/RuntimeException", "java/lang/Exception"], w.before args s = true := vx_hat (L := vx_atS RX6 151 "java/lang/IndexOutOfBoundsException" ["java/lang/RuntimeException", "java/lang/Exception"]) (B := cpBad) (fun w hw => hu w (um_14 w hw)) (by decide +kernel) (fun w hw => va_Nw.use (cpBad_tab (List.all_eq_true.mp cpBad_all w hw)) (hb w hw))
