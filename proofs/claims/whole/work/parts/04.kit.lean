/-! ROWS OF THIS PROOF: the words of the nest, contracts in one form, calls, array reads and ends over naturals -/
def nWs : List Cond := [.fieldLinkNest RX3 154 RX2 "size" "I" RX3, .fieldLinkNest RX3 92 RX0 "updates" "LSplicedChain$Queue;" RX3, .fieldLinkNest RX3 109 RX0 "acknowledgements" "LSplicedChain$Queue;" RX3, .fieldLinkNest RX3 136 RX0 "open" "Z" RX3, .fieldLinkNest RX3 66 RX1 "values" "[I" RX3, .fieldLinkNest RX3 88 RX1 "link" "LSplicedChain$Link;" RX3, .fieldLinkNest RX3 52 RX1 "history" "I" RX3, .fieldLinkNest RX3 139 RX1 "acknowledged" "I" RX3, .fieldLinkNest RX3 48 RX1 "failed" "Z" RX3]
def nMs : List (String × Nat × MethodName) := [(RX3, 32, yX1_init), (RX1, 17, yX0_init), (RX0, 9, yX2_init)]
def nFs : List (Nat × String × String × String) := [(154, RX2, "size", "I"), (92, RX0, "updates", "LSplicedChain$Queue;"), (109, RX0, "acknowledgements", "LSplicedChain$Queue;"), (136, RX0, "open", "Z"), (66, RX1, "values", "[I"), (88, RX1, "link", "LSplicedChain$Link;"), (52, RX1, "history", "I"), (139, RX1, "acknowledged", "I"), (48, RX1, "failed", "Z")]
def Cx (g : GG) (U : State) : Prop := va_K g.1 vwCl (gT g) U ∧ (∀ q ∈ nFs, va_Nw (.fieldLinkNest RX3 q.1 q.2.1 q.2.2.1 q.2.2.2 RX3) U) ∧ (∀ q ∈ nMs, va_Nw (.methodLinkNest q.1 q.2.1 q.2.2 RX3) U) ∧ va_AO RX1 U
theorem Cx.moved {g : GG} {s U : State} (hW : s.WarmedH U.vm) (h : Cx g s) : Cx g U := ⟨va_K.moved hW.alike h.1, fun q hq => va_Nw.warmF hW (h.2.1 q hq), fun q hq => va_Nw.warmM hW (h.2.2.1 q hq), va_AO.moved hW.alike h.2.2.2⟩
theorem Cx.same {g : GG} {s U : State} (hv : s.vm = U.vm) (h : Cx g s) : Cx g U := ⟨va_K.moved (by rw [hv]; exact Vm.Alike.refl U.vm) h.1, fun q hq => va_Nw.same rfl hv (h.2.1 q hq), fun q hq => va_Nw.same rfl hv (h.2.2.1 q hq), va_AO.moved (by rw [hv]; exact Vm.Alike.refl U.vm) h.2.2.2⟩
theorem Cx.F {g : GG} {s : State} {args : Array Value} (h : Cx g s) {i : Nat} {r n d : String} (hq : (i, r, n, d) ∈ nFs) : (Cond.fieldLinkNest RX3 i r n d RX3).before args s = true := va_Nw.use rfl (h.2.1 _ hq)
abbrev pC (g : GG) (av : List Value) (w : va_W) : Array Value → State → Prop := va_Pc av (fun U => va_P g.1 vwCl w U.heap ∧ Cx g U)
abbrev qI (g : GG) (r : Int32) (w : va_W) (A : Nat → Prop) := va_Qi (S := Unit) (fun x _ => x = r) (fun _ t => va_P g.1 vwCl w t.heap) A
abbrev qV (g : GG) (w : va_W) (A : Nat → Prop) := va_Qv (S := Unit) (fun _ => True) (fun _ t => va_P g.1 vwCl w t.heap) A
abbrev qR (g : GG) (r : Nat) (w : va_W) (A : Nat → Prop) := va_Qr (S := Unit) (fun _ => True) (fun _ x t => x = r ∧ va_P g.1 vwCl w t.heap) A
theorem pC_blind {g : GG} {av : List Value} {w : va_W} : FrameBlind (pC g av w) := fun a U g' mk q => ⟨q.1, q.2.1, q.2.2.same rfl⟩
/-- the world's addresses: apart, and in A -/
def Ap (A : Nat → Prop) (a : Nat → Nat) (N : Nat) : Prop := (∀ i j, i < N → j < N → a i = a j → i = j) ∧ ∀ k, k < N → A (a k)
theorem wC_len {g : GG} {a : Nat → Nat} {n : Nat} {s : CS} : (wC g a n s).length = 5 + 7 * n := by simp [wC]
theorem Ap.D {A : Nat → Prop} {a : Nat → Nat} {n : Nat} (h : Ap A a (5 + 7 * n)) {g : GG} {s : CS} : va_D A (wC g a n s) := by
  have key : ∀ (k : Nat) (q : Nat × va_E), (wC g a n s)[k]? = some q → k < 5 + 7 * n ∧ q.1 = a k := by
    intro k q hk
    have hl := (List.getElem?_eq_some_iff.mp hk).1
    rw [wC_len] at hl
    rw [wC_at hl] at hk
    exact ⟨hl, by rw [← Option.some.inj hk]⟩
  refine ⟨fun i j x y hi hj hxy => ?_, fun k q hk => ?_⟩
  · obtain ⟨h1, e1⟩ := key i x hi
    obtain ⟨h2, e2⟩ := key j y hj
    exact h.1 i j h1 h2 (by rw [← e1, ← e2]; exact hxy)
  · obtain ⟨h1, e1⟩ := key k q hk
    rw [e1]; exact h.2 k h1
section KS
variable {l : Launch} {g : GG}
/-- a method's start -/
theorem k_start {y : MethodName} {ws ws' : List Cond} {rm : Room} {av : List Value} {w : va_W} {Qc : Array Value → State → Outcome → State → Prop} {mc ms : Nat} {free : Addr → Prop} {cc : ByteArray} {maxL : Nat} {ret : Option FieldType}
    (hy : plainName y.cls = true) (hw : ws = Cond.code y cc maxL ret :: ws') (hn : (lg_sl av).length ≤ maxL)
    (body : ∀ (p : Program) (e : Env) (s : State) (m : MethodId) (args : Array Value) (below : List Frame) (meth : Method) (c : Code), p.tables.exec = Jvm.exec → c.code = cc → c.maxLocals = maxL → meth.sig.returnType = ret → meth.locks = false → (∀ w ∈ ws, w.before args s = true) → s.vm.findClass y.cls = some m.cls → meth.name = y.name → Cx g s → va_P g.1 vwCl w s.heap → ∀ ls : Array Slot, lv_has ls maxL (lv_args 0 av) →
      W p l e rm s m args below meth c s.heap [] 0 0 (MQ below Qc args s mc ms free) (F0 m 0 ls [])) : Met l y ws rm (pC g av w) Qc mc ms free := by
  refine Met.ofW (cc := cc) (maxL := maxL) (ret := ret) hy hw ?_
  intro p e s m args below meth c s₁ B hml hv
  obtain ⟨rfl, hP, hC⟩ := hv
  rw [lg_entry_eq]
  exact body p e s m _ below meth c B.exec B.bytes hml B.returns B.notSynchronized (atoms_spec (ws := ws) B.pre) (findClass_of_methodNamed B.named) (name_of_methodNamed B.named B.method).1 hC hP _ (lv_entry av hn)
end KS
section KC
variable {p : Program} {l : Launch} {e : Env} {R : Room} {s : State} {m : MethodId} {args : Array Value} {below : List Frame} {meth : Method} {c : Code} {H : Heap} {locs : List Loc} {cells slots : Nat} {Q : State → Prop}
variable {y : MethodName} {bytes cc : ByteArray} {maxL nL mc ms n index pc : Nat} {ret : Option FieldType} {ws : List Cond} {rm : Room} {Ts : List Cond} {own C : String} {b : Addr} {As rest st0 : List Value} {ls : Array Slot} {g : GG} {A0 A1 : Nat → Prop} {w w2 : va_W} {H0 : Heap}
theorem kV_pre {C : String} (hC : Cx g s) (hP : va_P g.1 vwCl w H) (hrc : ∃ cell : Cell, H[b]? = some cell ∧ cell.vm.isStatics = false ∧ s.vm.findClass C = some cell.cls) : PreV s H C b (pC g (.ref b :: As) w) As :=
  ⟨pC_blind, hrc, fun U hU hW => ⟨rfl, by rw [hU]; exact hP, hC.moved hW⟩⟩
theorem kS_pre (hC : Cx g s) (hP : va_P g.1 vwCl w H) : PreS s H (pC g As w) As :=
  ⟨pC_blind, fun U hU hW => ⟨rfl, by rw [hU]; exact hP, hC.moved hW⟩⟩
/-- invokevirtual, an int comes back -/
theorem kV_i {r : Int32} (S : CallFix p m c cc nL s args Ts own) (hM : Met l y ws rm (pC g (.ref b :: As) w) (qI g r w2 A1) mc ms A1) (cw : CallW R s args own C index y bytes maxL ret ws rm mc ms n) (hrc : ∃ cell : Cell, H[b]? = some cell ∧ cell.vm.isStatics = false ∧ s.vm.findClass C = some cell.cls) (hC : Cx g s) (hP : va_P g.1 vwCl w H) (hS : va_S A0 H0 H locs) (hA : ∀ q, A1 q → A0 q)
    (hn : As.length = n) (hz : ls.size = nL) (hst : st0 = As.reverse ++ .ref b :: rest) (hW : (rest.map fun v => v.category).sum ≤ 8) (hdg : decode cc pc = .ok (.invokevirtual index, 3)) (hf : cells + mc ≤ R.cells ∧ slots + ms ≤ R.slots)
    (kk : ∀ (H1 : Heap) (locs1 : List Loc), va_P g.1 vwCl w2 H1 → va_S A0 H0 H1 locs1 → H.size ≤ H1.size → (∀ q : Nat, q < H.size → ¬ A1 q → H1[q]? = H[q]?) → W p l e R s m args below meth c H1 locs1 (cells + mc) (slots + ms) Q (F0 m (pc + 3) ls (.int r :: rest))) : W p l e R s m args below meth c H locs cells slots Q (F0 m pc ls st0) := by
  refine va_calli (va_runV (As := As) (rest := rest) S hM cw (kV_pre hC hP hrc) rfl hn hz hst (lv_room (rest := st0) hW) hdg hf) hS (fun q _ h => hA q h) hA (fun x u t H1 locs1 ht hvm hx hB hz1 hk1 hS1 => ?_)
  subst hx; subst ht
  exact kk _ _ hB hS1 hz1 hk1
theorem kV_v (S : CallFix p m c cc nL s args Ts own) (hM : Met l y ws rm (pC g (.ref b :: As) w) (qV g w2 A1) mc ms A1) (cw : CallW R s args own C index y bytes maxL ret ws rm mc ms n) (hrc : ∃ cell : Cell, H[b]? = some cell ∧ cell.vm.isStatics = false ∧ s.vm.findClass C = some cell.cls) (hC : Cx g s) (hP : va_P g.1 vwCl w H) (hS : va_S A0 H0 H locs) (hA : ∀ q, A1 q → A0 q)
    (hn : As.length = n) (hz : ls.size = nL) (hst : st0 = As.reverse ++ .ref b :: rest) (hW : (rest.map fun v => v.category).sum ≤ 8) (hdg : decode cc pc = .ok (.invokevirtual index, 3)) (hf : cells + mc ≤ R.cells ∧ slots + ms ≤ R.slots)
    (kk : ∀ (H1 : Heap) (locs1 : List Loc), va_P g.1 vwCl w2 H1 → va_S A0 H0 H1 locs1 → H.size ≤ H1.size → (∀ q : Nat, q < H.size → ¬ A1 q → H1[q]? = H[q]?) → W p l e R s m args below meth c H1 locs1 (cells + mc) (slots + ms) Q (F0 m (pc + 3) ls rest)) : W p l e R s m args below meth c H locs cells slots Q (F0 m pc ls st0) := by
  refine va_callv (va_runV (As := As) (rest := rest) S hM cw (kV_pre hC hP hrc) rfl hn hz hst (lv_room (rest := st0) hW) hdg hf) hS (fun q _ h => hA q h) hA (fun u t H1 locs1 ht hvm hx hB hz1 hk1 hS1 => ?_)
  subst ht
  exact kk _ _ hB hS1 hz1 hk1
theorem kV_r {r : Nat} (S : CallFix p m c cc nL s args Ts own) (hM : Met l y ws rm (pC g (.ref b :: As) w) (qR g r w2 A1) mc ms A1) (cw : CallW R s args own C index y bytes maxL ret ws rm mc ms n) (hrc : ∃ cell : Cell, H[b]? = some cell ∧ cell.vm.isStatics = false ∧ s.vm.findClass C = some cell.cls) (hC : Cx g s) (hP : va_P g.1 vwCl w H) (hS : va_S A0 H0 H locs) (hA : ∀ q, A1 q → A0 q)
    (hn : As.length = n) (hz : ls.size = nL) (hst : st0 = As.reverse ++ .ref b :: rest) (hW : (rest.map fun v => v.category).sum ≤ 8) (hdg : decode cc pc = .ok (.invokevirtual index, 3)) (hf : cells + mc ≤ R.cells ∧ slots + ms ≤ R.slots)
    (kk : ∀ (H1 : Heap) (locs1 : List Loc), va_P g.1 vwCl w2 H1 → va_S A0 H0 H1 locs1 → H.size ≤ H1.size → (∀ q : Nat, q < H.size → ¬ A1 q → H1[q]? = H[q]?) → W p l e R s m args below meth c H1 locs1 (cells + mc) (slots + ms) Q (F0 m (pc + 3) ls (.ref r :: rest))) : W p l e R s m args below meth c H locs cells slots Q (F0 m pc ls st0) := by
  refine va_callr (va_runV (As := As) (rest := rest) S hM cw (kV_pre hC hP hrc) rfl hn hz hst (lv_room (rest := st0) hW) hdg hf) hS (fun q _ h => hA q h) hA (fun u ra t H1 locs1 ht hvm hx hB hz1 hk1 hS1 => ?_)
  obtain ⟨e1, hB⟩ := hB
  subst ht; subst e1
  exact kk _ _ hB hS1 hz1 hk1
/-- invokestatic, an int comes back -/
theorem kS_i {r : Int32} (S : CallFix p m c cc nL s args Ts own) (hM : Met l y ws rm (pC g As w) (qI g r w2 A1) mc ms A1) (cw : CallB R s args own index y bytes maxL ret ws rm mc ms n ∧ (Cond.static y).before args s = true) (hC : Cx g s) (hP : va_P g.1 vwCl w H) (hS : va_S A0 H0 H locs) (hA : ∀ q, A1 q → A0 q)
    (hn : As.length = n) (hz : ls.size = nL) (hst : st0 = As.reverse ++ rest) (hW : (rest.map fun v => v.category).sum ≤ 8) (hdg : decode cc pc = .ok (.invokestatic index, 3)) (hf : cells + mc ≤ R.cells ∧ slots + ms ≤ R.slots)
    (kk : ∀ (H1 : Heap) (locs1 : List Loc), va_P g.1 vwCl w2 H1 → va_S A0 H0 H1 locs1 → H.size ≤ H1.size → (∀ q : Nat, q < H.size → ¬ A1 q → H1[q]? = H[q]?) → W p l e R s m args below meth c H1 locs1 (cells + mc) (slots + ms) Q (F0 m (pc + 3) ls (.int r :: rest))) : W p l e R s m args below meth c H locs cells slots Q (F0 m pc ls st0) := by
  refine va_calli (va_runS (As := As) (rest := rest) S hM cw (kS_pre hC hP) rfl hn hz hst (lv_room (rest := st0) hW) hdg hf) hS (fun q _ h => hA q h) hA (fun x u t H1 locs1 ht hvm hx hB hz1 hk1 hS1 => ?_)
  subst hx; subst ht
  exact kk _ _ hB hS1 hz1 hk1
variable {ad : Nat}
/-- an int array's cell, by a natural index -/
theorem k_iald (hexec : p.tables.exec = Jvm.exec) (hb : c.code = cc) (hC : Cx g s) (hP : va_P g.1 vwCl w H) (q0 : Nat) {N : Nat} {f : Nat → Int32} (ha : w[q0]? = some (ad, .inl (gI g, N, .inl f))) {j : Nat} (hj : j < N) (hN : N < 2147483648) (hdg : decode cc pc = .ok (.iaload, 1))
    (kk : W p l e R s m args below meth c H locs cells slots Q (F0 m (pc + 1) ls (.int (f j) :: rest))) : W p l e R s m args below meth c H locs cells slots Q (F0 m pc ls (.int (nI j) :: .ref ad :: rest)) := by
  refine va_iald hexec hb hC.1 hP q0 0 ha rfl (vp_in_nI hj hN) hdg ?_
  rw [nI_clamp (Nat.lt_trans hj hN)]
  exact kk
theorem k_zald (hexec : p.tables.exec = Jvm.exec) (hb : c.code = cc) (hC : Cx g s) (hP : va_P g.1 vwCl w H) (q0 : Nat) {N : Nat} {f : Nat → Int32} (ha : w[q0]? = some (ad, .inl (gZ g, N, .inl f))) {j : Nat} (hj : j < N) (hN : N < 2147483648) (hdg : decode cc pc = .ok (.baload, 1))
    (kk : W p l e R s m args below meth c H locs cells slots Q (F0 m (pc + 1) ls (.int (f j) :: rest))) : W p l e R s m args below meth c H locs cells slots Q (F0 m pc ls (.int (nI j) :: .ref ad :: rest)) := by
  refine va_zald hexec hb hC.1 hP q0 1 ha rfl (vp_in_nI hj hN) hdg ?_
  rw [nI_clamp (Nat.lt_trans hj hN)]
  exact kk
theorem k_aald (hexec : p.tables.exec = Jvm.exec) (hb : c.code = cc) (hC : Cx g s) (hP : va_P g.1 vwCl w H) (q0 : Nat) {N : Nat} {f : Nat → Option Nat} (ha : w[q0]? = some (ad, .inl (gN g, N, .inr (.inr (.inr (.inr f)))))) {j x : Nat} (hj : j < N) (hN : N < 2147483648) (hf : f j = some x) (hdg : decode cc pc = .ok (.aaload, 1))
    (kk : W p l e R s m args below meth c H locs cells slots Q (F0 m (pc + 1) ls (.ref x :: rest))) : W p l e R s m args below meth c H locs cells slots Q (F0 m pc ls (.int (nI j) :: .ref ad :: rest)) := by
  refine va_aldq (C := RX1) hexec hb hC.1 hP q0 2 ha rfl (vp_in_nI hj hN) hdg ?_
  rw [nI_clamp (Nat.lt_trans hj hN), hf]
  exact kk
theorem k_iast (hexec : p.tables.exec = Jvm.exec) (hb : c.code = cc) (hC : Cx g s) (hP : va_P g.1 vwCl w H) (hD : va_D A0 w) (hS : va_S A0 H0 H locs) (q0 : Nat) {N : Nat} {f : Nat → Int32} (ha : w[q0]? = some (ad, .inl (gI g, N, .inl f))) {j : Nat} {x : Int32} (hj : j < N) (hN : N < 2147483648) (hdg : decode cc pc = .ok (.iastore, 1)) (hw : w.set q0 (ad, .inl (gI g, N, .inl (upd f j x))) = w2)
    (kk : ∀ (H1 : Heap) (locs1 : List Loc), va_P g.1 vwCl w2 H1 → va_S A0 H0 H1 locs1 → W p l e R s m args below meth c H1 locs1 cells slots Q (F0 m (pc + 1) ls rest)) : W p l e R s m args below meth c H locs cells slots Q (F0 m pc ls (.int x :: .int (nI j) :: .ref ad :: rest)) := by
  refine va_iast hexec hb hC.1 hP hD hS q0 0 ha rfl (vp_in_nI hj hN) hdg (fun H1 locs1 hP1 _ hS1 => ?_)
  rw [nI_clamp (Nat.lt_trans hj hN), hw] at hP1
  exact kk H1 locs1 hP1 hS1
theorem k_zast (hexec : p.tables.exec = Jvm.exec) (hb : c.code = cc) (hC : Cx g s) (hP : va_P g.1 vwCl w H) (hD : va_D A0 w) (hS : va_S A0 H0 H locs) (q0 : Nat) {N : Nat} {f : Nat → Int32} (ha : w[q0]? = some (ad, .inl (gZ g, N, .inl f))) {j : Nat} {x : Int32} (hj : j < N) (hN : N < 2147483648) (hx : vp_nar .boolean x = x) (hdg : decode cc pc = .ok (.bastore, 1)) (hw : w.set q0 (ad, .inl (gZ g, N, .inl (upd f j x))) = w2)
    (kk : ∀ (H1 : Heap) (locs1 : List Loc), va_P g.1 vwCl w2 H1 → va_S A0 H0 H1 locs1 → W p l e R s m args below meth c H1 locs1 cells slots Q (F0 m (pc + 1) ls rest)) : W p l e R s m args below meth c H locs cells slots Q (F0 m pc ls (.int x :: .int (nI j) :: .ref ad :: rest)) := by
  refine va_zast hexec hb hC.1 hP hD hS q0 1 ha rfl (vp_in_nI hj hN) hdg (fun H1 locs1 hP1 _ hS1 => ?_)
  rw [nI_clamp (Nat.lt_trans hj hN), hx, hw] at hP1
  exact kk H1 locs1 hP1 hS1
/-- ends -/
theorem k_iret {r v : Int32} (hexec : p.tables.exec = Jvm.exec) (hb : c.code = cc) (hr : meth.sig.returnType = some .int) (hlk : meth.locks = false) (hv : v = r) (hP : va_P g.1 vwCl w H) (hS : va_S A0 s.heap H locs) (hdg : decode cc pc = .ok (.ireturn, 1)) : W p l e R s m args below meth c H locs cells slots (MQ below (qI g r w A0) args s cells slots A0) (F0 m pc ls [.int v]) :=
  W.iret (v := v) hexec hb hr (fun t ht hW => ⟨⟨v, (), rfl, hv, by show va_P g.1 vwCl w t.heap; rw [ht]; exact hP⟩, hS.F ht⟩) hS.2.2 hdg hlk
theorem k_zret {r v : Int32} (hexec : p.tables.exec = Jvm.exec) (hb : c.code = cc) (hr : meth.sig.returnType = some .boolean) (hlk : meth.locks = false) (hv : v = r) (hn : narrow .boolean (.int v) = .int v) (hP : va_P g.1 vwCl w H) (hS : va_S A0 s.heap H locs) (hdg : decode cc pc = .ok (.ireturn, 1)) : W p l e R s m args below meth c H locs cells slots (MQ below (qI g r w A0) args s cells slots A0) (F0 m pc ls [.int v]) :=
  W.zret (v := v) hexec hb hr hn (fun t ht hW => ⟨⟨v, (), rfl, hv, by show va_P g.1 vwCl w t.heap; rw [ht]; exact hP⟩, hS.F ht⟩) hS.2.2 hdg hlk
theorem k_vret (hexec : p.tables.exec = Jvm.exec) (hb : c.code = cc) (hr : meth.sig.returnType = none) (hlk : meth.locks = false) (hP : va_P g.1 vwCl w H) (hS : va_S A0 s.heap H locs) (hdg : decode cc pc = .ok (.return_, 1)) : W p l e R s m args below meth c H locs cells slots (MQ below (qV g w A0) args s cells slots A0) (F0 m pc ls []) :=
  W.vret hexec hb hr (fun t ht hW => ⟨⟨(), rfl, trivial, by show va_P g.1 vwCl w t.heap; rw [ht]; exact hP⟩, hS.F ht⟩) hS.2.2 hdg hlk
theorem k_aret {r : Nat} {C : String} (hexec : p.tables.exec = Jvm.exec) (hb : c.code = cc) (hr : meth.sig.returnType = some (.object C)) (hlk : meth.locks = false) (hP : va_P g.1 vwCl w H) (hS : va_S A0 s.heap H locs) (hdg : decode cc pc = .ok (.areturn, 1)) : W p l e R s m args below meth c H locs cells slots (MQ below (qR g r w A0) args s cells slots A0) (F0 m pc ls [.ref r]) :=
  W.aret (v := .ref r) hexec hb hr (Or.inl ⟨C, rfl⟩) (Or.inr ⟨r, rfl⟩) (fun t ht hW => ⟨⟨(), r, rfl, trivial, rfl, by show va_P g.1 vwCl w t.heap; rw [ht]; exact hP⟩, hS.F ht⟩) hS.2.2 hdg hlk
/-- arithmetic and branches over naturals -/
theorem k_iadd {x y : Nat} (hexec : p.tables.exec = Jvm.exec) (hb : c.code = cc) (hdg : decode cc pc = .ok (.iadd, 1)) (kk : W p l e R s m args below meth c H locs cells slots Q (F0 m (pc + 1) ls (.int (nI (x + y)) :: rest))) : W p l e R s m args below meth c H locs cells slots Q (F0 m pc ls (.int (nI y) :: .int (nI x) :: rest)) :=
  lv_iadd hexec hb hdg (by rw [nI_add]; exact kk)
theorem k_isub {x y : Nat} (hexec : p.tables.exec = Jvm.exec) (hb : c.code = cc) (h : y ≤ x) (hdg : decode cc pc = .ok (.isub, 1)) (kk : W p l e R s m args below meth c H locs cells slots Q (F0 m (pc + 1) ls (.int (nI (x - y)) :: rest))) : W p l e R s m args below meth c H locs cells slots Q (F0 m pc ls (.int (nI y) :: .int (nI x) :: rest)) :=
  lv_isub hexec hb hdg (by rw [pk_sub h]; exact kk)
theorem k_imul {x y : Nat} (hexec : p.tables.exec = Jvm.exec) (hb : c.code = cc) (hdg : decode cc pc = .ok (.imul, 1)) (kk : W p l e R s m args below meth c H locs cells slots Q (F0 m (pc + 1) ls (.int (nI (x * y)) :: rest))) : W p l e R s m args below meth c H locs cells slots Q (F0 m pc ls (.int (nI y) :: .int (nI x) :: rest)) :=
  lv_imul hexec hb hdg (by rw [pk_mul]; exact kk)
theorem k_ic {x : Nat} {n : Int} (hexec : p.tables.exec = Jvm.exec) (hb : c.code = cc) (hdg : decode cc pc = .ok (.iconst n, 1)) (hv : Int32.ofInt n = nI x) (kk : W p l e R s m args below meth c H locs cells slots Q (F0 m (pc + 1) ls (.int (nI x) :: rest))) : W p l e R s m args below meth c H locs cells slots Q (F0 m pc ls rest) := lv_iconst hexec hb hdg hv kk
theorem k_bi {x : Nat} {n : Int} (hexec : p.tables.exec = Jvm.exec) (hb : c.code = cc) (hdg : decode cc pc = .ok (.bipush n, 2)) (hv : (Int8.ofInt n).toInt32 = nI x) (kk : W p l e R s m args below meth c H locs cells slots Q (F0 m (pc + 2) ls (.int (nI x) :: rest))) : W p l e R s m args below meth c H locs cells slots Q (F0 m pc ls rest) := lv_bipush hexec hb hdg hv kk
end KC
section KB
variable {p : Program} {l : Launch} {e : Env} {R : Room} {s : State} {m : MethodId} {args : Array Value} {below : List Frame} {meth : Method} {c : Code} {H : Heap} {locs : List Loc} {cells slots : Nat} {Q : State → Prop}
variable {cc : ByteArray} {pc : Nat} {rest : List Value} {ls : Array Slot}
theorem k_icmp_eq {x y : Nat} {off : Int} {tgt : Nat} (hexec : p.tables.exec = Jvm.exec) (hb : c.code = cc) (hdg : decode cc pc = .ok (.if_icmp .eq off, 3)) (ht : (pc : Int) + off = (tgt : Int)) (hx : x < 2147483648) (hy : y < 2147483648) (kt : x = y → W p l e R s m args below meth c H locs cells slots Q (F0 m tgt ls rest)) (kf : x ≠ y → W p l e R s m args below meth c H locs cells slots Q (F0 m (pc + 3) ls rest)) : W p l e R s m args below meth c H locs cells slots Q (F0 m pc ls (.int (nI y) :: .int (nI x) :: rest)) :=
  lv_icmp_eq hexec hb hdg ht (fun h => kt ((nI_eq hx hy).mp h)) (fun h => kf (fun q => h ((nI_eq hx hy).mpr q)))
theorem k_icmp_ne {x y : Nat} {off : Int} {tgt : Nat} (hexec : p.tables.exec = Jvm.exec) (hb : c.code = cc) (hdg : decode cc pc = .ok (.if_icmp .ne off, 3)) (ht : (pc : Int) + off = (tgt : Int)) (hx : x < 2147483648) (hy : y < 2147483648) (kt : x ≠ y → W p l e R s m args below meth c H locs cells slots Q (F0 m tgt ls rest)) (kf : x = y → W p l e R s m args below meth c H locs cells slots Q (F0 m (pc + 3) ls rest)) : W p l e R s m args below meth c H locs cells slots Q (F0 m pc ls (.int (nI y) :: .int (nI x) :: rest)) :=
  lv_icmp_ne hexec hb hdg ht (fun h => kt (fun q => h ((nI_eq hx hy).mpr q))) (fun h => kf ((nI_eq hx hy).mp h))
theorem k_icmp_lt {x y : Nat} {off : Int} {tgt : Nat} (hexec : p.tables.exec = Jvm.exec) (hb : c.code = cc) (hdg : decode cc pc = .ok (.if_icmp .lt off, 3)) (ht : (pc : Int) + off = (tgt : Int)) (hx : x < 2147483648) (hy : y < 2147483648) (kt : x < y → W p l e R s m args below meth c H locs cells slots Q (F0 m tgt ls rest)) (kf : y ≤ x → W p l e R s m args below meth c H locs cells slots Q (F0 m (pc + 3) ls rest)) : W p l e R s m args below meth c H locs cells slots Q (F0 m pc ls (.int (nI y) :: .int (nI x) :: rest)) :=
  lv_icmp_lt hexec hb hdg ht (fun h => kt ((nI_ltI hx hy).mp h)) (fun h => kf (Nat.not_lt.mp fun q => h ((nI_ltI hx hy).mpr q)))
theorem k_icmp_ge {x y : Nat} {off : Int} {tgt : Nat} (hexec : p.tables.exec = Jvm.exec) (hb : c.code = cc) (hdg : decode cc pc = .ok (.if_icmp .ge off, 3)) (ht : (pc : Int) + off = (tgt : Int)) (hx : x < 2147483648) (hy : y < 2147483648) (kt : y ≤ x → W p l e R s m args below meth c H locs cells slots Q (F0 m tgt ls rest)) (kf : x < y → W p l e R s m args below meth c H locs cells slots Q (F0 m (pc + 3) ls rest)) : W p l e R s m args below meth c H locs cells slots Q (F0 m pc ls (.int (nI y) :: .int (nI x) :: rest)) :=
  lv_icmp_ge hexec hb hdg ht (fun h => kt ((nI_leI hy hx).mp h)) (fun h => kf (Nat.not_le.mp fun q => h ((nI_leI hy hx).mpr q)))
theorem k_icmp_gt {x y : Nat} {off : Int} {tgt : Nat} (hexec : p.tables.exec = Jvm.exec) (hb : c.code = cc) (hdg : decode cc pc = .ok (.if_icmp .gt off, 3)) (ht : (pc : Int) + off = (tgt : Int)) (hx : x < 2147483648) (hy : y < 2147483648) (kt : y < x → W p l e R s m args below meth c H locs cells slots Q (F0 m tgt ls rest)) (kf : x ≤ y → W p l e R s m args below meth c H locs cells slots Q (F0 m (pc + 3) ls rest)) : W p l e R s m args below meth c H locs cells slots Q (F0 m pc ls (.int (nI y) :: .int (nI x) :: rest)) :=
  lv_icmp_gt hexec hb hdg ht (fun h => kt ((nI_ltI hy hx).mp h)) (fun h => kf (Nat.not_lt.mp fun q => h ((nI_ltI hy hx).mpr q)))
theorem k_icmp_le {x y : Nat} {off : Int} {tgt : Nat} (hexec : p.tables.exec = Jvm.exec) (hb : c.code = cc) (hdg : decode cc pc = .ok (.if_icmp .le off, 3)) (ht : (pc : Int) + off = (tgt : Int)) (hx : x < 2147483648) (hy : y < 2147483648) (kt : x ≤ y → W p l e R s m args below meth c H locs cells slots Q (F0 m tgt ls rest)) (kf : y < x → W p l e R s m args below meth c H locs cells slots Q (F0 m (pc + 3) ls rest)) : W p l e R s m args below meth c H locs cells slots Q (F0 m pc ls (.int (nI y) :: .int (nI x) :: rest)) :=
  lv_icmp_le hexec hb hdg ht (fun h => kt ((nI_leI hx hy).mp h)) (fun h => kf (Nat.not_le.mp fun q => h ((nI_leI hx hy).mpr q)))
theorem k_if_eq {x : Nat} {off : Int} {tgt : Nat} (hexec : p.tables.exec = Jvm.exec) (hb : c.code = cc) (hdg : decode cc pc = .ok (.ifCond .eq off, 3)) (ht : (pc : Int) + off = (tgt : Int)) (hx : x < 2147483648) (kt : x = 0 → W p l e R s m args below meth c H locs cells slots Q (F0 m tgt ls rest)) (kf : x ≠ 0 → W p l e R s m args below meth c H locs cells slots Q (F0 m (pc + 3) ls rest)) : W p l e R s m args below meth c H locs cells slots Q (F0 m pc ls (.int (nI x) :: rest)) :=
  lv_if_eq hexec hb hdg ht (fun h => kt ((nI_eq hx (show (0 : Nat) < 2147483648 by decide)).mp (h.trans nI_0.symm))) (fun h => kf (fun q => h (by rw [q]; exact nI_0)))
theorem k_if_ne {x : Nat} {off : Int} {tgt : Nat} (hexec : p.tables.exec = Jvm.exec) (hb : c.code = cc) (hdg : decode cc pc = .ok (.ifCond .ne off, 3)) (ht : (pc : Int) + off = (tgt : Int)) (hx : x < 2147483648) (kt : x ≠ 0 → W p l e R s m args below meth c H locs cells slots Q (F0 m tgt ls rest)) (kf : x = 0 → W p l e R s m args below meth c H locs cells slots Q (F0 m (pc + 3) ls rest)) : W p l e R s m args below meth c H locs cells slots Q (F0 m pc ls (.int (nI x) :: rest)) :=
  lv_if_ne hexec hb hdg ht (fun h => kt (fun q => h (by rw [q]; exact nI_0))) (fun h => kf ((nI_eq hx (show (0 : Nat) < 2147483648 by decide)).mp (h.trans nI_0.symm)))
theorem k_if_gt {x : Nat} {off : Int} {tgt : Nat} (hexec : p.tables.exec = Jvm.exec) (hb : c.code = cc) (hdg : decode cc pc = .ok (.ifCond .gt off, 3)) (ht : (pc : Int) + off = (tgt : Int)) (hx : x < 2147483648) (kt : 0 < x → W p l e R s m args below meth c H locs cells slots Q (F0 m tgt ls rest)) (kf : x = 0 → W p l e R s m args below meth c H locs cells slots Q (F0 m (pc + 3) ls rest)) : W p l e R s m args below meth c H locs cells slots Q (F0 m pc ls (.int (nI x) :: rest)) :=
  lv_if_gt hexec hb hdg ht (fun h => kt ((nI_ltI (show (0 : Nat) < 2147483648 by decide) hx).mp (by rw [nI_0]; exact h))) (fun h => kf (Nat.le_zero.mp (Nat.not_lt.mp fun q => h (by rw [← nI_0]; exact (nI_ltI (show (0 : Nat) < 2147483648 by decide) hx).mpr q))))
theorem k_if_le {x : Nat} {off : Int} {tgt : Nat} (hexec : p.tables.exec = Jvm.exec) (hb : c.code = cc) (hdg : decode cc pc = .ok (.ifCond .le off, 3)) (ht : (pc : Int) + off = (tgt : Int)) (hx : x < 2147483648) (kt : x = 0 → W p l e R s m args below meth c H locs cells slots Q (F0 m tgt ls rest)) (kf : 0 < x → W p l e R s m args below meth c H locs cells slots Q (F0 m (pc + 3) ls rest)) : W p l e R s m args below meth c H locs cells slots Q (F0 m pc ls (.int (nI x) :: rest)) :=
  lv_if_le hexec hb hdg ht (fun h => kt (Nat.le_zero.mp ((nI_leI hx (show (0 : Nat) < 2147483648 by decide)).mp (by rw [nI_0]; exact h)))) (fun h => kf (Nat.not_le.mp fun q => h (by rw [← nI_0]; exact (nI_leI hx (show (0 : Nat) < 2147483648 by decide)).mpr q)))
theorem k_irem {x y : Nat} (hexec : p.tables.exec = Jvm.exec) (hb : c.code = cc) (hx : x < 2147483648) (hy0 : 0 < y) (hy : y < 2147483648) (hdg : decode cc pc = .ok (.irem, 1)) (kk : W p l e R s m args below meth c H locs cells slots Q (F0 m (pc + 1) ls (.int (nI (x % y)) :: rest))) : W p l e R s m args below meth c H locs cells slots Q (F0 m pc ls (.int (nI y) :: .int (nI x) :: rest)) :=
  lv_irem hexec hb hdg (nI_ne0 hy0 hy) (by rw [pk_rem hx hy0 hy]; exact kk)
/-- an int gets a natural's name -/
theorem k_as {v : Int32} {x : Nat} (h : v = nI x) (kk : W p l e R s m args below meth c H locs cells slots Q (F0 m pc ls (.int (nI x) :: rest))) : W p l e R s m args below meth c H locs cells slots Q (F0 m pc ls (.int v :: rest)) := by rw [h]; exact kk
theorem k_has {ls : Array Slot} {nL : Nat} {l1 l2 : List (Nat × Value)} (h : lv_has ls nL l1) (e : l1 = l2) : lv_has ls nL l2 := e ▸ h
end KB
