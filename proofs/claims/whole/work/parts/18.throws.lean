/-! CONTRACTS OF CALLS THAT THROW -/
abbrev nm2 : List String := ["java/lang/RuntimeException", "java/lang/Exception"]
abbrev eIA : String := "java/lang/IllegalArgumentException"
abbrev eIS : String := "java/lang/IllegalStateException"
def sLs : List (Nat × String) := [(39, "no such key"), (57, "the head has failed or its history is full"), (64, "the tail has failed"), (72, "no such node"), (74, "the node has failed"), (85, "no update is on the link from the predecessor"), (107, "no acknowledgement is on the link from the successor"), (134, "there is no closed link between two nodes that stand"), (157, "no such node or key")]
def ngs : List Cond := (vx_atS RX3 41 eIA nm2).filter (fun w => !goodWord w) ++ (vx_atS RX3 59 eIS nm2).filter (fun w => !goodWord w) ++ (nx_atS RX3 87).filter (fun w => !goodWord w)
def isD : Cond → Bool
  | .declares _ => true
  | .castable _ _ => true
  | _ => false
theorem isD_spec {w : Cond} (h : isD w = true) : (∃ x, w = .declares x) ∨ ∃ C T, w = .castable C T := by cases w <;> first | exact Or.inl ⟨_, rfl⟩ | exact Or.inr ⟨_, _, rfl⟩ | (simp [isD] at h)
set_option maxRecDepth 100000 in
theorem ngs_d : ∀ w ∈ ngs, isD w = true := by decide +kernel
def Tx (sa : Nat → Nat) (A : Nat → Prop) (U : State) (H : Heap) : Prop := vx_Zq Bundle.tN "UNASSIGNED_STACK" Bundle.steD A U H ∧ vx_Zq Bundle.tN "SUPPRESSED_SENTINEL" Bundle.listD A U H ∧ (∀ q ∈ sLs, vk_R RX3 q.1 q.2 (sa q.1) U) ∧ ∀ w ∈ ngs, va_Nw w U
theorem Tx.moved {sa : Nat → Nat} {A : Nat → Prop} {s U : State} {H : Heap} (hW : s.WarmedH U.vm) (h : Tx sa A s H) : Tx sa A U H :=
  ⟨vx_Zq.moved hW.alike h.1, vx_Zq.moved hW.alike h.2.1, fun q hq => vk_R.warm hW (h.2.2.1 q hq), fun w hw => by
    rcases isD_spec (ngs_d w hw) with ⟨x, rfl⟩ | ⟨C, T, rfl⟩
    · exact va_Nw.warmD hW (h.2.2.2 _ hw)
    · exact va_Nw.warmC hW (h.2.2.2 _ hw)⟩
theorem Tx.same {sa : Nat → Nat} {A : Nat → Prop} {s U : State} {H : Heap} (hv : s.vm = U.vm) (h : Tx sa A s H) : Tx sa A U H :=
  ⟨vx_Zq.moved (by rw [hv]; exact Vm.Alike.refl U.vm) h.1, vx_Zq.moved (by rw [hv]; exact Vm.Alike.refl U.vm) h.2.1, fun q hq => vk_R.same hv.symm (h.2.2.1 q hq), fun w hw => by
    rcases isD_spec (ngs_d w hw) with ⟨x, rfl⟩ | ⟨C, T, rfl⟩ <;> exact va_Nw.same rfl hv (h.2.2.2 _ hw)⟩
theorem Tx.kept {sa : Nat → Nat} {A : Nat → Prop} {s : State} {H H1 : Heap} (h : Tx sa A s H) (hq : ∀ a : Nat, a < H.size → ¬ A a → H1[a]? = H[a]?) : Tx sa A s H1 := ⟨h.1.kept hq, h.2.1.kept hq, h.2.2⟩
theorem Tx.narrow {sa : Nat → Nat} {A B : Nat → Prop} {s : State} {H : Heap} (h : Tx sa A s H) (hAB : ∀ q, B q → A q) : Tx sa B s H := ⟨h.1.narrow hAB, h.2.1.narrow hAB, h.2.2⟩
abbrev pT (g : GG) (sa : Nat → Nat) (A : Nat → Prop) (av : List Value) (w : va_W) : Array Value → State → Prop := va_Pc av (fun U => va_P g.1 vwCl w U.heap ∧ Cx g U ∧ Tx sa A U U.heap)
theorem pT_blind {g : GG} {sa : Nat → Nat} {A : Nat → Prop} {av : List Value} {w : va_W} : FrameBlind (pT g sa A av w) := fun a U g' mk q => ⟨q.1, q.2.1, q.2.2.1.same rfl, Tx.same (s := U) (U := U.calling g' mk a) (H := U.heap) rfl q.2.2.2⟩
abbrev qF (A : Nat → Prop) := va_Qi (S := Unit) (fun _ _ => False) (fun _ _ => True) A
abbrev xC (g : GG) (E : String) (w : va_W) (A : Nat → Prop) := vx_X (S := Unit) (fun _ => True) (fun E' _ t => E' = E ∧ va_P g.1 vwCl w t.heap) A
section KX
variable {l : Launch} {g : GG}
theorem k_startX {y : MethodName} {ws ws' : List Cond} {rm : Room} {av : List Value} {w : va_W} {sa : Nat → Nat} {A : Nat → Prop} {Qc : Array Value → State → Outcome → State → Prop} {XC : String → State → State → Prop} {mc ms : Nat} {free : Addr → Prop} {cc : ByteArray} {maxL : Nat} {ret : Option FieldType}
    (hy : plainName y.cls = true) (hw : ws = Cond.code y cc maxL ret :: ws') (hn : (lg_sl av).length ≤ maxL)
    (body : ∀ (p : Program) (e : Env) (s : State) (m : MethodId) (args : Array Value) (below : List Frame) (meth : Method) (c : Code), p.tables.exec = Jvm.exec → c.code = cc → c.maxLocals = maxL → meth.sig.returnType = ret → meth.locks = false → (∀ w ∈ ws, w.before args s = true) → s.vm.findClass y.cls = some m.cls → meth.name = y.name → Cx g s → va_P g.1 vwCl w s.heap → Tx sa A s s.heap → (∀ x ∈ c.exceptionTable.toList, False) → ∀ ls : Array Slot, lv_has ls maxL (lv_args 0 av) →
      W p l e rm s m args below meth c s.heap [] 0 0 (vx_MQ below Qc XC args s mc ms free) (F0 m 0 ls [])) : vx_Met l y ws rm (pT g sa A av w) Qc XC mc ms free := by
  refine vx_ofW (cc := cc) (maxL := maxL) (ret := ret) hy hw ?_
  intro p e s m args below meth c s₁ B hml hnt hv
  obtain ⟨rfl, hP, hC, hT⟩ := hv
  rw [lg_entry_eq]
  exact body p e s m _ below meth c B.exec B.bytes hml B.returns B.notSynchronized (atoms_spec (ws := ws) B.pre) (findClass_of_methodNamed B.named) (name_of_methodNamed B.named B.method).1 hC hP hT hnt _ (lv_entry av hn)
end KX
set_option maxRecDepth 100000 in
theorem gd_ia : ∀ w ∈ Cond.classLink RX3 37 eIA :: Cond.initialized eIA :: vx_atS RX3 41 eIA nm2, vx_ot w = true := by decide +kernel
set_option maxRecDepth 100000 in
theorem gd_is : ∀ w ∈ Cond.classLink RX3 55 eIS :: Cond.initialized eIS :: vx_atS RX3 59 eIS nm2, vx_ot w = true := by decide +kernel
set_option maxRecDepth 100000 in
theorem gd_ns : ∀ w ∈ Cond.classLink RX3 83 nx_n :: Cond.initialized nx_n :: nx_atS RX3 87, vx_ot w = true := by decide +kernel
section KT
variable {p : Program} {l : Launch} {e : Env} {R : Room} {s : State} {m : MethodId} {args : Array Value} {below : List Frame} {meth : Method} {c : Code} {H : Heap} {locs : List Loc} {cells slots : Nat}
variable {ls : Array Slot} {rest : List Value} {Qc : Array Value → State → Outcome → State → Prop} {cc : ByteArray} {pc : Nat} {g : GG} {sa : Nat → Nat} {A : Nat → Prop} {w : va_W}
theorem x_end {E : String} (hP : va_P g.1 vwCl w H) (hS : va_S A s.heap H locs) : ∀ t : State, s.vm.Alike t.vm → H.size ≤ t.heap.size → (∀ q : Nat, q < H.size → t.heap[q]? = H[q]?) → xC g E w A E s t :=
  fun t hal hsz hk => ⟨(), trivial, ⟨rfl, hP.kept (fun k q hq => hk q.1 (hP k q hq).lt)⟩, ⟨Nat.le_trans hS.1 hsz, fun q h1 h2 => (hk q (Nat.lt_of_lt_of_le h1 hS.1)).trans (hS.2.1 q h1 h2)⟩⟩
theorem k_ia {text : String} {is : Nat} (hexec : p.tables.exec = Jvm.exec) (hb : c.code = cc) (hl : l.stackTraces = false) (hown : s.vm.findClass RX3 = some m.cls) (hk : (Cond.classLink RX3 37 eIA).before args s = true) (hini : (Cond.initialized eIA).before args s = true) (hs : (is, text) ∈ sLs) (h1 : ∀ w ∈ (vx_atS RX3 41 eIA nm2).filter goodWord, w.before args s = true) (hT : Tx sa A s s.heap) (hP : va_P g.1 vwCl w H) (hS : va_S A s.heap H locs) (hz : ls.size = c.maxLocals)
    (d0 : decode cc pc = .ok (.new 37, 3)) (d3 : decode cc (pc + 3) = .ok (.dup, 1)) (d4 : decode cc (pc + 4) = .ok (.ldc is, 2)) (d6 : decode cc (pc + 6) = .ok (.invokespecial 41, 3)) (d9 : decode cc (pc + 9) = .ok (.athrow, 1)) (hnt : ∀ x ∈ c.exceptionTable.toList, False)
    (hRf : 2 + 3 < R.frames) (hRl : (rest.map fun v => v.category).sum + (13 * (2 + 1) + 43) ≤ R.locals) (hRc : cells + 1 ≤ R.cells) (hRs : slots + 6 ≤ R.slots) (hlk : meth.locks = false) (hc : cells + 1 ≤ 1) (hs' : slots + 6 ≤ 6) :
    W p l e R s m args below meth c H locs cells slots (vx_MQ below Qc (xC g eIA w A) args s 1 6 A) (F0 m pc ls rest) :=
  vx_throwS (names := nm2) hexec hb hl hown (by decide) (by decide) hk hini (hT.2.2.1 _ hs) (vx_hat h1 (fun w hw => List.mem_append_left _ (List.mem_append_left _ hw)) (fun w hw => by
    rcases isD_spec (ngs_d w hw) with ⟨x, rfl⟩ | ⟨C, T, rfl⟩ <;> exact va_Nw.use rfl (hT.2.2.2 _ hw))) gd_ia hT.1 hT.2.1 hS hz d0 d3 d4 d6 d9 (fun x hx => (hnt x hx).elim) hRf hRl hRc hRs hlk (x_end hP hS) hS.2.2 hc hs'
theorem k_is {text : String} {is : Nat} (hexec : p.tables.exec = Jvm.exec) (hb : c.code = cc) (hl : l.stackTraces = false) (hown : s.vm.findClass RX3 = some m.cls) (hk : (Cond.classLink RX3 55 eIS).before args s = true) (hini : (Cond.initialized eIS).before args s = true) (hs : (is, text) ∈ sLs) (h1 : ∀ w ∈ (vx_atS RX3 59 eIS nm2).filter goodWord, w.before args s = true) (hT : Tx sa A s s.heap) (hP : va_P g.1 vwCl w H) (hS : va_S A s.heap H locs) (hz : ls.size = c.maxLocals)
    (d0 : decode cc pc = .ok (.new 55, 3)) (d3 : decode cc (pc + 3) = .ok (.dup, 1)) (d4 : decode cc (pc + 4) = .ok (.ldc is, 2)) (d6 : decode cc (pc + 6) = .ok (.invokespecial 59, 3)) (d9 : decode cc (pc + 9) = .ok (.athrow, 1)) (hnt : ∀ x ∈ c.exceptionTable.toList, False)
    (hRf : 2 + 3 < R.frames) (hRl : (rest.map fun v => v.category).sum + (13 * (2 + 1) + 43) ≤ R.locals) (hRc : cells + 1 ≤ R.cells) (hRs : slots + 6 ≤ R.slots) (hlk : meth.locks = false) (hc : cells + 1 ≤ 1) (hs' : slots + 6 ≤ 6) :
    W p l e R s m args below meth c H locs cells slots (vx_MQ below Qc (xC g eIS w A) args s 1 6 A) (F0 m pc ls rest) :=
  vx_throwS (names := nm2) hexec hb hl hown (by decide) (by decide) hk hini (hT.2.2.1 _ hs) (vx_hat h1 (fun w hw => List.mem_append_left _ (List.mem_append_right _ hw)) (fun w hw => by
    rcases isD_spec (ngs_d w hw) with ⟨x, rfl⟩ | ⟨C, T, rfl⟩ <;> exact va_Nw.use rfl (hT.2.2.2 _ hw))) gd_is hT.1 hT.2.1 hS hz d0 d3 d4 d6 d9 (fun x hx => (hnt x hx).elim) hRf hRl hRc hRs hlk (x_end hP hS) hS.2.2 hc hs'
theorem k_ns {text : String} {is : Nat} (hexec : p.tables.exec = Jvm.exec) (hb : c.code = cc) (hl : l.stackTraces = false) (hown : s.vm.findClass RX3 = some m.cls) (hk : (Cond.classLink RX3 83 nx_n).before args s = true) (hini : (Cond.initialized nx_n).before args s = true) (hs : (is, text) ∈ sLs) (h1 : ∀ w ∈ (nx_atS RX3 87).filter goodWord, w.before args s = true) (hT : Tx sa A s s.heap) (hP : va_P g.1 vwCl w H) (hS : va_S A s.heap H locs) (hz : ls.size = c.maxLocals)
    (d0 : decode cc pc = .ok (.new 83, 3)) (d3 : decode cc (pc + 3) = .ok (.dup, 1)) (d4 : decode cc (pc + 4) = .ok (.ldc is, 2)) (d6 : decode cc (pc + 6) = .ok (.invokespecial 87, 3)) (d9 : decode cc (pc + 9) = .ok (.athrow, 1)) (hnt : ∀ x ∈ c.exceptionTable.toList, False)
    (hRf : 2 + 3 < R.frames) (hRl : (rest.map fun v => v.category).sum + (13 * (2 + 1) + 43) ≤ R.locals) (hRc : cells + 1 ≤ R.cells) (hRs : slots + 6 ≤ R.slots) (hlk : meth.locks = false) (hc : cells + 1 ≤ 1) (hs' : slots + 6 ≤ 6) :
    W p l e R s m args below meth c H locs cells slots (vx_MQ below Qc (xC g nx_n w A) args s 1 6 A) (F0 m pc ls rest) :=
  nx_throwS hexec hb hl hown hk hini (hT.2.2.1 _ hs) (vx_hat h1 (fun w hw => List.mem_append_right _ hw) (fun w hw => by
    rcases isD_spec (ngs_d w hw) with ⟨x, rfl⟩ | ⟨C, T, rfl⟩ <;> exact va_Nw.use rfl (hT.2.2.2 _ hw))) gd_ns hT.1 hT.2.1 hS hz d0 d3 d4 d6 d9 (fun x hx => (hnt x hx).elim) hRf hRl hRc hRs hlk (x_end hP hS) hS.2.2 hc hs'
end KT
