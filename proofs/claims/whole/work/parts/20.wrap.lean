/-! THE LAW'S STATIC METHODS -/
abbrev oC (g : GG) (o : Nat) (f : Nat → Int64) : va_W := [(o, .inl (gJ g, 1, .inr (.inl f)))]
def Nx (U : State) : Prop := va_Nc eIS eIA U ∧ va_Nc nx_n eIA U ∧ va_Nc nx_n eIS U
theorem Nx.moved {s U : State} (h : s.vm.Alike U.vm) (q : Nx s) : Nx U := ⟨q.1.moved h, q.2.1.moved h, q.2.2.moved h⟩
abbrev pW (g : GG) (sa : Nat → Nat) (A : Nat → Prop) (av : List Value) (a : Nat → Nat) (n : Nat) (s : CS) (o : Nat) (f : Nat → Int64) (sz : Nat) : Array Value → State → Prop := va_Pc av (fun U => U.heap.size = sz ∧ va_P g.1 vwCl (wC g a n s) U.heap ∧ va_P g.1 vwCl (oC g o f) U.heap ∧ Cx g U ∧ Tx sa A U U.heap ∧ Nx U)
abbrev qW (g : GG) (r : Int32) (a : Nat → Nat) (n : Nat) (s : CS) (o : Nat) (f : Nat → Int64) (A : Nat → Prop) := va_Qi (S := Unit) (fun x _ => x = r) (fun _ t => va_P g.1 vwCl (wC g a n s) t.heap ∧ va_P g.1 vwCl (oC g o f) t.heap) A
theorem pW_blind {g : GG} {sa : Nat → Nat} {A : Nat → Prop} {av : List Value} {a : Nat → Nat} {n : Nat} {s : CS} {o : Nat} {f : Nat → Int64} {sz : Nat} : FrameBlind (pW g sa A av a n s o f sz) := fun z U g' mk q => ⟨q.1, q.2.1, q.2.2.1, q.2.2.2.1, q.2.2.2.2.1.same rfl, Tx.same (s := U) (U := U.calling g' mk z) (H := U.heap) rfl q.2.2.2.2.2.1, Nx.moved (s := U) (U := U.calling g' mk z) (Vm.Alike.refl U.vm) q.2.2.2.2.2.2⟩
/-- the cells that a call of the class may change, in a heap of z cells -/
def A1 (a : Nat → Nat) (n z : Nat) : Nat → Prop := fun q => (∃ k, k < 5 + 7 * n ∧ q = a k) ∨ z ≤ q
theorem A1_ap {A : Nat → Prop} {a : Nat → Nat} {n z : Nat} (h : Ap A a (5 + 7 * n)) : Ap (A1 a n z) a (5 + 7 * n) := ⟨h.1, fun k hk => Or.inl ⟨k, hk, rfl⟩⟩
theorem A1_in {A : Nat → Prop} {a : Nat → Nat} {n z : Nat} (h : Ap A a (5 + 7 * n)) (hz : ∀ q, z ≤ q → A q) : ∀ q, A1 a n z q → A q := fun q hq => by
  rcases hq with ⟨k, hk, rfl⟩ | hq
  · exact h.2 k hk
  · exact hz q hq
theorem A1_out {a : Nat → Nat} {n z o : Nat} (ho : ∀ k, k < 5 + 7 * n → a k ≠ o) (hz : o < z) : ¬ A1 a n z o := fun q => by
  rcases q with ⟨k, hk, e⟩ | q
  · exact ho k hk e.symm
  · omega
theorem wO_get {g : GG} {a : Nat → Nat} {n : Nat} {s : CS} {o : Nat} {f : Nat → Int64} : (wC g a n s ++ oC g o f)[5 + 7 * n]? = some (o, .inl (gJ g, 1, .inr (.inl f))) := by
  rw [List.getElem?_append_right (by rw [wC_len]; omega), wC_len, Nat.sub_self]; rfl
theorem wO_set {g : GG} {a : Nat → Nat} {n : Nat} {s : CS} {o : Nat} {f f2 : Nat → Int64} : (wC g a n s ++ oC g o f).set (5 + 7 * n) (o, .inl (gJ g, 1, .inr (.inl f2))) = wC g a n s ++ oC g o f2 := by
  rw [List.set_append_right _ _ (by rw [wC_len]; omega), wC_len, Nat.sub_self]; rfl
theorem wO_l {D : va_G} {cl : List vw_C} {w1 w2 : va_W} {H : Heap} (h : va_P D cl (w1 ++ w2) H) : va_P D cl w1 H := fun k q hk => h k q (by rw [List.getElem?_append_left (List.getElem?_eq_some_iff.mp hk).1]; exact hk)
theorem wO_D {A : Nat → Prop} {g : GG} {a : Nat → Nat} {n : Nat} {s : CS} {o : Nat} {f : Nat → Int64} (h : Ap A a (5 + 7 * n)) (hAo : A o) (ho : ∀ k, k < 5 + 7 * n → a k ≠ o) : va_D A (wC g a n s ++ oC g o f) := by
  refine va_D.app h.D ⟨fun i j p q h1 h2 _ => ?_, fun k q hk => ?_⟩ (fun i j p q h1 h2 => ?_)
  · have := (List.getElem?_eq_some_iff.mp h1).1; have := (List.getElem?_eq_some_iff.mp h2).1; simp at *; omega
  · have := (List.getElem?_eq_some_iff.mp hk).1
    obtain rfl : k = 0 := by simp at *; omega
    cases hk; exact hAo
  · have hl := (List.getElem?_eq_some_iff.mp h1).1
    rw [wC_len] at hl
    rw [wC_at hl] at h1
    cases h1
    have := (List.getElem?_eq_some_iff.mp h2).1
    obtain rfl : j = 0 := by simp at *; omega
    cases h2
    exact ho i hl
section KW
variable {l : Launch} {g : GG}
theorem k_startW {y : MethodName} {ws ws' : List Cond} {rm : Room} {av : List Value} {sa : Nat → Nat} {A : Nat → Prop} {a : Nat → Nat} {n : Nat} {st : CS} {o : Nat} {f : Nat → Int64} {sz : Nat} {Qc : Array Value → State → Outcome → State → Prop} {mc ms : Nat} {free : Addr → Prop} {cc : ByteArray} {maxL : Nat} {hh : List (Nat × Nat × Nat × Nat)}
    (hy : plainName y.cls = true) (hw : ws = Cond.codeWith y cc maxL (some .int) hh :: ws') (hn : (lg_sl av).length ≤ maxL)
    (body : ∀ (p : Program) (e : Env) (s : State) (m : MethodId) (args : Array Value) (below : List Frame) (meth : Method) (c : Code), p.tables.exec = Jvm.exec → c.code = cc → c.maxLocals = maxL → meth.sig.returnType = some .int → meth.locks = false → (∀ w ∈ ws, w.before args s = true) → s.vm.findClass y.cls = some m.cls → c.exceptionTable.toList = tableOf hh → s.heap.size = sz → va_P g.1 vwCl (wC g a n st) s.heap → va_P g.1 vwCl (oC g o f) s.heap → Cx g s → Tx sa A s s.heap → Nx s → ∀ ls : Array Slot, lv_has ls maxL (lv_args 0 av) →
      W p l e rm s m args below meth c s.heap [] 0 0 (MQ below Qc args s mc ms free) (F0 m 0 ls [])) : Met l y ws rm (pW g sa A av a n st o f sz) Qc mc ms free := by
  refine va_MetW (cc := cc) (maxL := maxL) (ret := some .int) (hh := hh) hy hw ?_
  intro p e s m args below meth c s₁ B hml hv
  obtain ⟨rfl, hz, hP, hO, hC, hT, hN⟩ := hv
  rw [lg_entry_eq]
  have hts := atoms_spec (ws := ws) B.pre
  exact body p e s m _ below meth c B.exec B.bytes hml B.returns B.notSynchronized hts (findClass_of_methodNamed B.named) (vx_table (x := y) B (hts _ (by rw [hw]; exact List.mem_cons_self))) hz hP hO hC hT hN _ (lv_entry av hn)
end KW
section KY
variable {p : Program} {l : Launch} {e : Env} {R : Room} {s : State} {m : MethodId} {args : Array Value} {below : List Frame} {meth : Method} {c : Code} {H : Heap} {locs : List Loc} {cells slots : Nat} {Q : State → Prop}
variable {y : MethodName} {bytes cc : ByteArray} {maxL nL n index pc : Nat} {ret : Option FieldType} {ws : List Cond} {rm : Room} {Ts : List Cond} {own C : String} {b : Addr} {As rest st0 : List Value} {ls : Array Slot} {g : GG} {A0 B1 : Nat → Prop} {w : va_W} {H0 : Heap} {sa : Nat → Nat}
/-- invokevirtual of a call that throws E -/
theorem kX_i {E : String} (S : CallFix p m c cc nL s args Ts own) (hM : vx_Met l y ws rm (pT g sa B1 (.ref b :: As) w) (qF B1) (xC g E w B1) 1 6 B1) (cw : CallW R s args own C index y bytes maxL ret ws rm 1 6 n) (hrc : ∃ cell : Cell, H[b]? = some cell ∧ cell.vm.isStatics = false ∧ s.vm.findClass C = some cell.cls) (hC : Cx g s) (hT : Tx sa B1 s H) (hP : va_P g.1 vwCl w H) (hS : va_S A0 H0 H locs) (hA : ∀ q, B1 q → A0 q)
    (hn : As.length = n) (hz : ls.size = nL) (hst : st0 = As.reverse ++ .ref b :: rest) (hW : (rest.map fun v => v.category).sum ≤ 8) (hdg : decode cc pc = .ok (.invokevirtual index, 3)) (hf : cells + 1 ≤ R.cells ∧ slots + 6 ≤ R.slots)
    (kx : ∀ (ce : Cell) (q9 : Addr) (H1 : Heap) (locs1 : List Loc), va_P g.1 vwCl w H1 → va_S A0 H0 H1 locs1 → H.size ≤ H1.size → (∀ q : Nat, q < H.size → ¬ B1 q → H1[q]? = H[q]?) → H1[q9]? = some ce → ce.vm = .none → s.vm.findClass E = some ce.cls → vx_W p l e R s m args below meth c H1 locs1 (cells + 1) (slots + 6) Q (F0 m pc ls rest) q9) : W p l e R s m args below meth c H locs cells slots Q (F0 m pc ls st0) := by
  refine vx_calli (vx_runV (As := As) (rest := rest) S hM cw ⟨pT_blind, hrc, fun U hU hW => ⟨rfl, by rw [hU]; exact hP, hC.moved hW, by rw [hU]; exact hT.moved hW⟩⟩ rfl hn hz hst (lv_room (rest := st0) hW) hdg hf) hS (fun q _ h => hA q h) hA (fun q _ h => hA q h) (fun E' ce q9 u t H1 locs1 ht hvm _ hB hz1 hk1 hS1 h1 h2 h3 => ?_) (fun r u t H1 locs1 ht hvm hx hB hz1 hk1 hS1 => hx.elim)
  obtain ⟨rfl, hB⟩ := hB
  subst ht
  exact kx ce q9 _ _ hB hS1 hz1 hk1 h1 h2 h3
theorem k_iretW {r v : Int32} {a : Nat → Nat} {N : Nat} {s2 : CS} {o : Nat} {f : Nat → Int64} {A : Nat → Prop} (hexec : p.tables.exec = Jvm.exec) (hb : c.code = cc) (hr : meth.sig.returnType = some .int) (hlk : meth.locks = false) (hv : v = r) (hP : va_P g.1 vwCl (wC g a N s2) H) (hO : va_P g.1 vwCl (oC g o f) H) (hS : va_S A s.heap H locs) (hdg : decode cc pc = .ok (.ireturn, 1)) : W p l e R s m args below meth c H locs cells slots (MQ below (qW g r a N s2 o f A) args s cells slots A) (F0 m pc ls [.int v]) :=
  W.iret (v := v) hexec hb hr (fun t ht hW => ⟨⟨v, (), rfl, hv, by show va_P g.1 vwCl (wC g a N s2) t.heap ∧ va_P g.1 vwCl (oC g o f) t.heap; rw [ht]; exact ⟨hP, hO⟩⟩, hS.F ht⟩) hS.2.2 hdg hlk
end KY
set_option maxHeartbeats 4000000 in
set_option maxRecDepth 100000 in
theorem w_write (l : Launch) {g : GG} {sa : Nat → Nat} {a : Nat → Nat} {n : Nat} {A : Nat → Prop} (hA : Ap A a (5 + 7 * n)) {s s2 : CS} {o sz : Nat} {f : Nat → Int64} (hAo : A o) (ho : ∀ k, k < 5 + 7 * n → a k ≠ o) (hz9 : ∀ q, sz ≤ q → A q) {x y : Int32} {r : Int32} (hM : ∀ B : Nat → Prop, Ap B a (5 + 7 * n) → Met l yX3_write wsX3_write ({ frames := 4, cells := 0, slots := 0, locals := 87 }) (pC g [.ref (a 0), .int x, .int y] (wC g a n s)) (qI g (r) (wC g a n s2) B) 0 0 B) : Met l yL_write wsL_write ({ frames := 5, cells := 1, slots := 6, locals := 111 }) (pW g sa A [.ref (a 0), .int x, .int y, .ref o] a n s o f sz) (qW g (nI 0) a n s2 o (vp_updL f 0 r.toInt64) A) 1 6 A := by
  refine k_startW (cc := cL_write) (maxL := 5) (hh := [(0, 10, 13, 13), (0, 10, 17, 15)]) (by decide) rfl (Nat.le_of_ble_eq_true rfl) ?_
  intro pr en s0 m args below meth cd hx hb hml hr hlk hts hown htab hsz hP hO hC hT hN ls hl
  subst hsz
  have hS : va_S A s0.heap s0.heap [] := va_S.rf
  have hfx : CallFix pr m cd cL_write 5 s0 args wsL_write RL := ⟨hx, hb, hml, hown, hts⟩
  have hl : lv_has ls 5 [(0, .ref (a 0)), (1, .int x), (2, .int y), (3, .ref o)] := hl
  have ho9 : ¬ A1 a n s0.heap.size o := A1_out ho (hO 0 _ rfl).lt
  refine lv_aload_n hx hb dL_write_0 rfl (lv_at hl 3 rfl) ?_
  refine k_ic (x := 0) hx hb dL_write_1 (by decide) ?_
  refine lv_aload_n hx hb dL_write_2 rfl (lv_at hl 0 rfl) ?_
  refine lv_iload_n hx hb dL_write_3 rfl (lv_at hl 1 rfl) ?_
  refine lv_iload_n hx hb dL_write_4 rfl (lv_at hl 2 rfl) ?_
  refine kV_i (r := r) (w2 := wC g a n s2) (As := [.int x, .int y]) (b := a 0) (rest := [.int (nI 0), .ref o]) (A1 := A1 a n s0.heap.size) hfx (hM _ (A1_ap hA)) (cwV 2 hts gL_write_X3_write rfl rfl rfl (by decide +kernel) ⟨by decide, by decide⟩) (va_recv hC.1 hP (ci := 3) rfl wC_obj) hC hP hS (A1_in hA hz9) rfl hl.1 rfl (Nat.le_of_ble_eq_true rfl) dL_write_5 ⟨Nat.le_of_ble_eq_true rfl, Nat.le_of_ble_eq_true rfl⟩ (fun H locs hP hS hz1 hk1 => ?_)
  have hO : va_P g.1 vwCl (oC g o f) H := hO.kept (fun k q hq => by (have hj := (List.getElem?_eq_some_iff.mp hq).1); (obtain rfl : k = 0 := by simp at *; omega); cases hq; exact hk1 o (hO 0 _ rfl).lt ho9)
  have hPO := va_P.app hP hO
  refine lv_i2l (v := r.toInt64) hx hb dL_write_8 rfl ?_
  refine va_last hx hb hC.1 hPO (wO_D hA hAo ho) hS _ 3 wO_get rfl (vp_in_nI (n := 0) (by decide) (by decide)) dL_write_9 (fun H locs hPO _ hS => ?_)
  have hPO := P_eq wO_set hPO
  refine lv_goto (tgt := 21) hx hb dL_write_10 (by decide) ?_
  refine k_ic (x := 0) hx hb dL_write_21 (by decide) ?_
  refine W.widen (k := 1) (n := 6) (by decide) (by decide) ?_
  exact k_iretW hx hb hr hlk rfl (wO_l hPO) (by have q := sub_app hPO; rw [nI_clamp (by decide)] at q; exact q) hS dL_write_22
set_option maxHeartbeats 4000000 in
set_option maxRecDepth 100000 in
theorem w_write_ia (l : Launch) {g : GG} {sa : Nat → Nat} {a : Nat → Nat} {n : Nat} {A : Nat → Prop} (hA : Ap A a (5 + 7 * n)) {s s2 : CS} {o sz : Nat} {f : Nat → Int64} (hAo : A o) (ho : ∀ k, k < 5 + 7 * n → a k ≠ o) (hz9 : ∀ q, sz ≤ q → A q) {x y : Int32} (hM : ∀ B : Nat → Prop, Ap B a (5 + 7 * n) → vx_Met l yX3_write wsX3_write ({ frames := 6, cells := 1, slots := 6, locals := 87 }) (pT g sa B [.ref (a 0), .int x, .int y] (wC g a n s)) (qF B) (xC g eIA (wC g a n s) B) 1 6 B) : Met l yL_write wsL_write ({ frames := 7, cells := 1, slots := 6, locals := 111 }) (pW g sa A [.ref (a 0), .int x, .int y, .ref o] a n s o f sz) (qW g (nI 1) a n s o f A) 1 6 A := by
  refine k_startW (cc := cL_write) (maxL := 5) (hh := [(0, 10, 13, 13), (0, 10, 17, 15)]) (by decide) rfl (Nat.le_of_ble_eq_true rfl) ?_
  intro pr en s0 m args below meth cd hx hb hml hr hlk hts hown htab hsz hP hO hC hT hN ls hl
  subst hsz
  have hS : va_S A s0.heap s0.heap [] := va_S.rf
  have hfx : CallFix pr m cd cL_write 5 s0 args wsL_write RL := ⟨hx, hb, hml, hown, hts⟩
  have hl : lv_has ls 5 [(0, .ref (a 0)), (1, .int x), (2, .int y), (3, .ref o)] := hl
  have ho9 : ¬ A1 a n s0.heap.size o := A1_out ho (hO 0 _ rfl).lt
  refine lv_aload_n hx hb dL_write_0 rfl (lv_at hl 3 rfl) ?_
  refine k_ic (x := 0) hx hb dL_write_1 (by decide) ?_
  refine lv_aload_n hx hb dL_write_2 rfl (lv_at hl 0 rfl) ?_
  refine lv_iload_n hx hb dL_write_3 rfl (lv_at hl 1 rfl) ?_
  refine lv_iload_n hx hb dL_write_4 rfl (lv_at hl 2 rfl) ?_
  refine kX_i (As := [.int x, .int y]) (b := a 0) (rest := [.int (nI 0), .ref o]) (B1 := A1 a n s0.heap.size) hfx (hM _ (A1_ap hA)) (cwV 2 hts gL_write_X3_write rfl rfl rfl (by decide +kernel) ⟨by decide, by decide⟩) (va_recv hC.1 hP (ci := 3) rfl wC_obj) hC (hT.narrow (A1_in hA hz9)) hP hS (A1_in hA hz9) rfl hl.1 rfl (Nat.le_of_ble_eq_true rfl) dL_write_5 ⟨by decide, by decide⟩ (fun ce q9 H locs hP hS hz1 hk1 h1 h2 h3 => ?_)
  have hO : va_P g.1 vwCl (oC g o f) H := hO.kept (fun k q hq => by (have hj := (List.getElem?_eq_some_iff.mp hq).1); (obtain rfl : k = 0 := by simp at *; omega); cases hq; exact hk1 o (hO 0 _ rfl).lt ho9)
  refine vx_catch (own := RL) (name := eIA) hown [] ⟨0, 10, 13, 13⟩ [⟨0, 10, 17, 15⟩] (by rw [htab]; rfl) (fun z hz => absurd hz List.not_mem_nil) (by decide) (by decide) (hts (.classLink RL 13 eIA) (by decide +kernel)) (va_Nw.use rfl (hT.2.2.2 (.castable eIA eIA) (by decide +kernel))) h1 h2 h3 ?_
  refine lv_astore (lv' := [(4, .ref q9), (0, .ref (a 0)), (1, .int x), (2, .int y), (3, .ref o)]) hx hb dL_write_13 hl (by decide) rfl (fun ls hl => ?_)
  refine k_ic (x := 1) hx hb dL_write_15 (by decide) ?_
  exact k_iretW hx hb hr hlk rfl hP hO hS dL_write_16
set_option maxHeartbeats 4000000 in
set_option maxRecDepth 100000 in
theorem w_write_is (l : Launch) {g : GG} {sa : Nat → Nat} {a : Nat → Nat} {n : Nat} {A : Nat → Prop} (hA : Ap A a (5 + 7 * n)) {s s2 : CS} {o sz : Nat} {f : Nat → Int64} (hAo : A o) (ho : ∀ k, k < 5 + 7 * n → a k ≠ o) (hz9 : ∀ q, sz ≤ q → A q) {x y : Int32} (hM : ∀ B : Nat → Prop, Ap B a (5 + 7 * n) → vx_Met l yX3_write wsX3_write ({ frames := 6, cells := 1, slots := 6, locals := 87 }) (pT g sa B [.ref (a 0), .int x, .int y] (wC g a n s)) (qF B) (xC g eIS (wC g a n s) B) 1 6 B) : Met l yL_write wsL_write ({ frames := 7, cells := 1, slots := 6, locals := 111 }) (pW g sa A [.ref (a 0), .int x, .int y, .ref o] a n s o f sz) (qW g (nI 2) a n s o f A) 1 6 A := by
  refine k_startW (cc := cL_write) (maxL := 5) (hh := [(0, 10, 13, 13), (0, 10, 17, 15)]) (by decide) rfl (Nat.le_of_ble_eq_true rfl) ?_
  intro pr en s0 m args below meth cd hx hb hml hr hlk hts hown htab hsz hP hO hC hT hN ls hl
  subst hsz
  have hS : va_S A s0.heap s0.heap [] := va_S.rf
  have hfx : CallFix pr m cd cL_write 5 s0 args wsL_write RL := ⟨hx, hb, hml, hown, hts⟩
  have hl : lv_has ls 5 [(0, .ref (a 0)), (1, .int x), (2, .int y), (3, .ref o)] := hl
  have ho9 : ¬ A1 a n s0.heap.size o := A1_out ho (hO 0 _ rfl).lt
  refine lv_aload_n hx hb dL_write_0 rfl (lv_at hl 3 rfl) ?_
  refine k_ic (x := 0) hx hb dL_write_1 (by decide) ?_
  refine lv_aload_n hx hb dL_write_2 rfl (lv_at hl 0 rfl) ?_
  refine lv_iload_n hx hb dL_write_3 rfl (lv_at hl 1 rfl) ?_
  refine lv_iload_n hx hb dL_write_4 rfl (lv_at hl 2 rfl) ?_
  refine kX_i (As := [.int x, .int y]) (b := a 0) (rest := [.int (nI 0), .ref o]) (B1 := A1 a n s0.heap.size) hfx (hM _ (A1_ap hA)) (cwV 2 hts gL_write_X3_write rfl rfl rfl (by decide +kernel) ⟨by decide, by decide⟩) (va_recv hC.1 hP (ci := 3) rfl wC_obj) hC (hT.narrow (A1_in hA hz9)) hP hS (A1_in hA hz9) rfl hl.1 rfl (Nat.le_of_ble_eq_true rfl) dL_write_5 ⟨by decide, by decide⟩ (fun ce q9 H locs hP hS hz1 hk1 h1 h2 h3 => ?_)
  have hO : va_P g.1 vwCl (oC g o f) H := hO.kept (fun k q hq => by (have hj := (List.getElem?_eq_some_iff.mp hq).1); (obtain rfl : k = 0 := by simp at *; omega); cases hq; exact hk1 o (hO 0 _ rfl).lt ho9)
  refine vx_catch (own := RL) (name := eIS) hown [⟨0, 10, 13, 13⟩] ⟨0, 10, 17, 15⟩ [] (by rw [htab]; rfl) (fun z hz => Or.inr (by cases List.mem_singleton.mp hz; exact ⟨by decide, eIA, hts (.classLink RL 13 eIA) (by decide +kernel), hN.1⟩)) (by decide) (by decide) (hts (.classLink RL 15 eIS) (by decide +kernel)) (va_Nw.use rfl (hT.2.2.2 (.castable eIS eIS) (by decide +kernel))) h1 h2 h3 ?_
  refine lv_astore (lv' := [(4, .ref q9), (0, .ref (a 0)), (1, .int x), (2, .int y), (3, .ref o)]) hx hb dL_write_17 hl (by decide) rfl (fun ls hl => ?_)
  refine k_ic (x := 2) hx hb dL_write_19 (by decide) ?_
  exact k_iretW hx hb hr hlk rfl hP hO hS dL_write_20
set_option maxHeartbeats 4000000 in
set_option maxRecDepth 100000 in
theorem w_read (l : Launch) {g : GG} {sa : Nat → Nat} {a : Nat → Nat} {n : Nat} {A : Nat → Prop} (hA : Ap A a (5 + 7 * n)) {s s2 : CS} {o sz : Nat} {f : Nat → Int64} (hAo : A o) (ho : ∀ k, k < 5 + 7 * n → a k ≠ o) (hz9 : ∀ q, sz ≤ q → A q) {x : Int32} {r : Int32} (hM : ∀ B : Nat → Prop, Ap B a (5 + 7 * n) → Met l yX3_read wsX3_read ({ frames := 1, cells := 0, slots := 0, locals := 21 }) (pC g [.ref (a 0), .int x] (wC g a n s)) (qI g (r) (wC g a n s2) B) 0 0 B) : Met l yL_read wsL_read ({ frames := 2, cells := 1, slots := 6, locals := 43 }) (pW g sa A [.ref (a 0), .int x, .ref o] a n s o f sz) (qW g (nI 0) a n s2 o (vp_updL f 0 r.toInt64) A) 1 6 A := by
  refine k_startW (cc := cL_read) (maxL := 4) (hh := [(0, 9, 12, 13), (0, 9, 15, 15)]) (by decide) rfl (Nat.le_of_ble_eq_true rfl) ?_
  intro pr en s0 m args below meth cd hx hb hml hr hlk hts hown htab hsz hP hO hC hT hN ls hl
  subst hsz
  have hS : va_S A s0.heap s0.heap [] := va_S.rf
  have hfx : CallFix pr m cd cL_read 4 s0 args wsL_read RL := ⟨hx, hb, hml, hown, hts⟩
  have hl : lv_has ls 4 [(0, .ref (a 0)), (1, .int x), (2, .ref o)] := hl
  have ho9 : ¬ A1 a n s0.heap.size o := A1_out ho (hO 0 _ rfl).lt
  refine lv_aload_n hx hb dL_read_0 rfl (lv_at hl 2 rfl) ?_
  refine k_ic (x := 0) hx hb dL_read_1 (by decide) ?_
  refine lv_aload_n hx hb dL_read_2 rfl (lv_at hl 0 rfl) ?_
  refine lv_iload_n hx hb dL_read_3 rfl (lv_at hl 1 rfl) ?_
  refine kV_i (r := r) (w2 := wC g a n s2) (As := [.int x]) (b := a 0) (rest := [.int (nI 0), .ref o]) (A1 := A1 a n s0.heap.size) hfx (hM _ (A1_ap hA)) (cwV 1 hts gL_read_X3_read rfl rfl rfl (by decide +kernel) ⟨by decide, by decide⟩) (va_recv hC.1 hP (ci := 3) rfl wC_obj) hC hP hS (A1_in hA hz9) rfl hl.1 rfl (Nat.le_of_ble_eq_true rfl) dL_read_4 ⟨Nat.le_of_ble_eq_true rfl, Nat.le_of_ble_eq_true rfl⟩ (fun H locs hP hS hz1 hk1 => ?_)
  have hO : va_P g.1 vwCl (oC g o f) H := hO.kept (fun k q hq => by (have hj := (List.getElem?_eq_some_iff.mp hq).1); (obtain rfl : k = 0 := by simp at *; omega); cases hq; exact hk1 o (hO 0 _ rfl).lt ho9)
  have hPO := va_P.app hP hO
  refine lv_i2l (v := r.toInt64) hx hb dL_read_7 rfl ?_
  refine va_last hx hb hC.1 hPO (wO_D hA hAo ho) hS _ 3 wO_get rfl (vp_in_nI (n := 0) (by decide) (by decide)) dL_read_8 (fun H locs hPO _ hS => ?_)
  have hPO := P_eq wO_set hPO
  refine lv_goto (tgt := 18) hx hb dL_read_9 (by decide) ?_
  refine k_ic (x := 0) hx hb dL_read_18 (by decide) ?_
  refine W.widen (k := 1) (n := 6) (by decide) (by decide) ?_
  exact k_iretW hx hb hr hlk rfl (wO_l hPO) (by have q := sub_app hPO; rw [nI_clamp (by decide)] at q; exact q) hS dL_read_19
set_option maxHeartbeats 4000000 in
set_option maxRecDepth 100000 in
theorem w_read_ia (l : Launch) {g : GG} {sa : Nat → Nat} {a : Nat → Nat} {n : Nat} {A : Nat → Prop} (hA : Ap A a (5 + 7 * n)) {s s2 : CS} {o sz : Nat} {f : Nat → Int64} (hAo : A o) (ho : ∀ k, k < 5 + 7 * n → a k ≠ o) (hz9 : ∀ q, sz ≤ q → A q) {x : Int32} (hM : ∀ B : Nat → Prop, Ap B a (5 + 7 * n) → vx_Met l yX3_read wsX3_read ({ frames := 6, cells := 1, slots := 6, locals := 82 }) (pT g sa B [.ref (a 0), .int x] (wC g a n s)) (qF B) (xC g eIA (wC g a n s) B) 1 6 B) : Met l yL_read wsL_read ({ frames := 7, cells := 1, slots := 6, locals := 104 }) (pW g sa A [.ref (a 0), .int x, .ref o] a n s o f sz) (qW g (nI 1) a n s o f A) 1 6 A := by
  refine k_startW (cc := cL_read) (maxL := 4) (hh := [(0, 9, 12, 13), (0, 9, 15, 15)]) (by decide) rfl (Nat.le_of_ble_eq_true rfl) ?_
  intro pr en s0 m args below meth cd hx hb hml hr hlk hts hown htab hsz hP hO hC hT hN ls hl
  subst hsz
  have hS : va_S A s0.heap s0.heap [] := va_S.rf
  have hfx : CallFix pr m cd cL_read 4 s0 args wsL_read RL := ⟨hx, hb, hml, hown, hts⟩
  have hl : lv_has ls 4 [(0, .ref (a 0)), (1, .int x), (2, .ref o)] := hl
  have ho9 : ¬ A1 a n s0.heap.size o := A1_out ho (hO 0 _ rfl).lt
  refine lv_aload_n hx hb dL_read_0 rfl (lv_at hl 2 rfl) ?_
  refine k_ic (x := 0) hx hb dL_read_1 (by decide) ?_
  refine lv_aload_n hx hb dL_read_2 rfl (lv_at hl 0 rfl) ?_
  refine lv_iload_n hx hb dL_read_3 rfl (lv_at hl 1 rfl) ?_
  refine kX_i (As := [.int x]) (b := a 0) (rest := [.int (nI 0), .ref o]) (B1 := A1 a n s0.heap.size) hfx (hM _ (A1_ap hA)) (cwV 1 hts gL_read_X3_read rfl rfl rfl (by decide +kernel) ⟨by decide, by decide⟩) (va_recv hC.1 hP (ci := 3) rfl wC_obj) hC (hT.narrow (A1_in hA hz9)) hP hS (A1_in hA hz9) rfl hl.1 rfl (Nat.le_of_ble_eq_true rfl) dL_read_4 ⟨by decide, by decide⟩ (fun ce q9 H locs hP hS hz1 hk1 h1 h2 h3 => ?_)
  have hO : va_P g.1 vwCl (oC g o f) H := hO.kept (fun k q hq => by (have hj := (List.getElem?_eq_some_iff.mp hq).1); (obtain rfl : k = 0 := by simp at *; omega); cases hq; exact hk1 o (hO 0 _ rfl).lt ho9)
  refine vx_catch (own := RL) (name := eIA) hown [] ⟨0, 9, 12, 13⟩ [⟨0, 9, 15, 15⟩] (by rw [htab]; rfl) (fun z hz => absurd hz List.not_mem_nil) (by decide) (by decide) (hts (.classLink RL 13 eIA) (by decide +kernel)) (va_Nw.use rfl (hT.2.2.2 (.castable eIA eIA) (by decide +kernel))) h1 h2 h3 ?_
  refine lv_astore_n (lv' := [(3, .ref q9), (0, .ref (a 0)), (1, .int x), (2, .ref o)]) hx hb dL_read_12 rfl hl (by decide) rfl (fun ls hl => ?_)
  refine k_ic (x := 1) hx hb dL_read_13 (by decide) ?_
  exact k_iretW hx hb hr hlk rfl hP hO hS dL_read_14
set_option maxHeartbeats 4000000 in
set_option maxRecDepth 100000 in
theorem w_read_is (l : Launch) {g : GG} {sa : Nat → Nat} {a : Nat → Nat} {n : Nat} {A : Nat → Prop} (hA : Ap A a (5 + 7 * n)) {s s2 : CS} {o sz : Nat} {f : Nat → Int64} (hAo : A o) (ho : ∀ k, k < 5 + 7 * n → a k ≠ o) (hz9 : ∀ q, sz ≤ q → A q) {x : Int32} (hM : ∀ B : Nat → Prop, Ap B a (5 + 7 * n) → vx_Met l yX3_read wsX3_read ({ frames := 6, cells := 1, slots := 6, locals := 82 }) (pT g sa B [.ref (a 0), .int x] (wC g a n s)) (qF B) (xC g eIS (wC g a n s) B) 1 6 B) : Met l yL_read wsL_read ({ frames := 7, cells := 1, slots := 6, locals := 104 }) (pW g sa A [.ref (a 0), .int x, .ref o] a n s o f sz) (qW g (nI 2) a n s o f A) 1 6 A := by
  refine k_startW (cc := cL_read) (maxL := 4) (hh := [(0, 9, 12, 13), (0, 9, 15, 15)]) (by decide) rfl (Nat.le_of_ble_eq_true rfl) ?_
  intro pr en s0 m args below meth cd hx hb hml hr hlk hts hown htab hsz hP hO hC hT hN ls hl
  subst hsz
  have hS : va_S A s0.heap s0.heap [] := va_S.rf
  have hfx : CallFix pr m cd cL_read 4 s0 args wsL_read RL := ⟨hx, hb, hml, hown, hts⟩
  have hl : lv_has ls 4 [(0, .ref (a 0)), (1, .int x), (2, .ref o)] := hl
  have ho9 : ¬ A1 a n s0.heap.size o := A1_out ho (hO 0 _ rfl).lt
  refine lv_aload_n hx hb dL_read_0 rfl (lv_at hl 2 rfl) ?_
  refine k_ic (x := 0) hx hb dL_read_1 (by decide) ?_
  refine lv_aload_n hx hb dL_read_2 rfl (lv_at hl 0 rfl) ?_
  refine lv_iload_n hx hb dL_read_3 rfl (lv_at hl 1 rfl) ?_
  refine kX_i (As := [.int x]) (b := a 0) (rest := [.int (nI 0), .ref o]) (B1 := A1 a n s0.heap.size) hfx (hM _ (A1_ap hA)) (cwV 1 hts gL_read_X3_read rfl rfl rfl (by decide +kernel) ⟨by decide, by decide⟩) (va_recv hC.1 hP (ci := 3) rfl wC_obj) hC (hT.narrow (A1_in hA hz9)) hP hS (A1_in hA hz9) rfl hl.1 rfl (Nat.le_of_ble_eq_true rfl) dL_read_4 ⟨by decide, by decide⟩ (fun ce q9 H locs hP hS hz1 hk1 h1 h2 h3 => ?_)
  have hO : va_P g.1 vwCl (oC g o f) H := hO.kept (fun k q hq => by (have hj := (List.getElem?_eq_some_iff.mp hq).1); (obtain rfl : k = 0 := by simp at *; omega); cases hq; exact hk1 o (hO 0 _ rfl).lt ho9)
  refine vx_catch (own := RL) (name := eIS) hown [⟨0, 9, 12, 13⟩] ⟨0, 9, 15, 15⟩ [] (by rw [htab]; rfl) (fun z hz => Or.inr (by cases List.mem_singleton.mp hz; exact ⟨by decide, eIA, hts (.classLink RL 13 eIA) (by decide +kernel), hN.1⟩)) (by decide) (by decide) (hts (.classLink RL 15 eIS) (by decide +kernel)) (va_Nw.use rfl (hT.2.2.2 (.castable eIS eIS) (by decide +kernel))) h1 h2 h3 ?_
  refine lv_astore_n (lv' := [(3, .ref q9), (0, .ref (a 0)), (1, .int x), (2, .ref o)]) hx hb dL_read_15 rfl hl (by decide) rfl (fun ls hl => ?_)
  refine k_ic (x := 2) hx hb dL_read_16 (by decide) ?_
  exact k_iretW hx hb hr hlk rfl hP hO hS dL_read_17
set_option maxHeartbeats 4000000 in
set_option maxRecDepth 100000 in
theorem w_deliver (l : Launch) {g : GG} {sa : Nat → Nat} {a : Nat → Nat} {n : Nat} {A : Nat → Prop} (hA : Ap A a (5 + 7 * n)) {s s2 : CS} {o sz : Nat} {f : Nat → Int64} (hAo : A o) (ho : ∀ k, k < 5 + 7 * n → a k ≠ o) (hz9 : ∀ q, sz ≤ q → A q) {x : Int32} {r : Int32} (hM : ∀ B : Nat → Prop, Ap B a (5 + 7 * n) → Met l yX3_deliver wsX3_deliver ({ frames := 4, cells := 0, slots := 0, locals := 87 }) (pC g [.ref (a 0), .int x] (wC g a n s)) (qI g (r) (wC g a n s2) B) 0 0 B) : Met l yL_deliver wsL_deliver ({ frames := 5, cells := 1, slots := 6, locals := 110 }) (pW g sa A [.ref (a 0), .int x, .ref o] a n s o f sz) (qW g (nI 0) a n s2 o (vp_updL f 0 r.toInt64) A) 1 6 A := by
  refine k_startW (cc := cL_deliver) (maxL := 4) (hh := [(0, 9, 12, 13), (0, 9, 15, 15), (0, 9, 18, 24)]) (by decide) rfl (Nat.le_of_ble_eq_true rfl) ?_
  intro pr en s0 m args below meth cd hx hb hml hr hlk hts hown htab hsz hP hO hC hT hN ls hl
  subst hsz
  have hS : va_S A s0.heap s0.heap [] := va_S.rf
  have hfx : CallFix pr m cd cL_deliver 4 s0 args wsL_deliver RL := ⟨hx, hb, hml, hown, hts⟩
  have hl : lv_has ls 4 [(0, .ref (a 0)), (1, .int x), (2, .ref o)] := hl
  have ho9 : ¬ A1 a n s0.heap.size o := A1_out ho (hO 0 _ rfl).lt
  refine lv_aload_n hx hb dL_deliver_0 rfl (lv_at hl 2 rfl) ?_
  refine k_ic (x := 0) hx hb dL_deliver_1 (by decide) ?_
  refine lv_aload_n hx hb dL_deliver_2 rfl (lv_at hl 0 rfl) ?_
  refine lv_iload_n hx hb dL_deliver_3 rfl (lv_at hl 1 rfl) ?_
  refine kV_i (r := r) (w2 := wC g a n s2) (As := [.int x]) (b := a 0) (rest := [.int (nI 0), .ref o]) (A1 := A1 a n s0.heap.size) hfx (hM _ (A1_ap hA)) (cwV 1 hts gL_deliver_X3_deliver rfl rfl rfl (by decide +kernel) ⟨by decide, by decide⟩) (va_recv hC.1 hP (ci := 3) rfl wC_obj) hC hP hS (A1_in hA hz9) rfl hl.1 rfl (Nat.le_of_ble_eq_true rfl) dL_deliver_4 ⟨Nat.le_of_ble_eq_true rfl, Nat.le_of_ble_eq_true rfl⟩ (fun H locs hP hS hz1 hk1 => ?_)
  have hO : va_P g.1 vwCl (oC g o f) H := hO.kept (fun k q hq => by (have hj := (List.getElem?_eq_some_iff.mp hq).1); (obtain rfl : k = 0 := by simp at *; omega); cases hq; exact hk1 o (hO 0 _ rfl).lt ho9)
  have hPO := va_P.app hP hO
  refine lv_i2l (v := r.toInt64) hx hb dL_deliver_7 rfl ?_
  refine va_last hx hb hC.1 hPO (wO_D hA hAo ho) hS _ 3 wO_get rfl (vp_in_nI (n := 0) (by decide) (by decide)) dL_deliver_8 (fun H locs hPO _ hS => ?_)
  have hPO := P_eq wO_set hPO
  refine lv_goto (tgt := 21) hx hb dL_deliver_9 (by decide) ?_
  refine k_ic (x := 0) hx hb dL_deliver_21 (by decide) ?_
  refine W.widen (k := 1) (n := 6) (by decide) (by decide) ?_
  exact k_iretW hx hb hr hlk rfl (wO_l hPO) (by have q := sub_app hPO; rw [nI_clamp (by decide)] at q; exact q) hS dL_deliver_22
set_option maxHeartbeats 4000000 in
set_option maxRecDepth 100000 in
theorem w_deliver_ia (l : Launch) {g : GG} {sa : Nat → Nat} {a : Nat → Nat} {n : Nat} {A : Nat → Prop} (hA : Ap A a (5 + 7 * n)) {s s2 : CS} {o sz : Nat} {f : Nat → Int64} (hAo : A o) (ho : ∀ k, k < 5 + 7 * n → a k ≠ o) (hz9 : ∀ q, sz ≤ q → A q) {x : Int32} (hM : ∀ B : Nat → Prop, Ap B a (5 + 7 * n) → vx_Met l yX3_deliver wsX3_deliver ({ frames := 6, cells := 1, slots := 6, locals := 87 }) (pT g sa B [.ref (a 0), .int x] (wC g a n s)) (qF B) (xC g eIA (wC g a n s) B) 1 6 B) : Met l yL_deliver wsL_deliver ({ frames := 7, cells := 1, slots := 6, locals := 110 }) (pW g sa A [.ref (a 0), .int x, .ref o] a n s o f sz) (qW g (nI 1) a n s o f A) 1 6 A := by
  refine k_startW (cc := cL_deliver) (maxL := 4) (hh := [(0, 9, 12, 13), (0, 9, 15, 15), (0, 9, 18, 24)]) (by decide) rfl (Nat.le_of_ble_eq_true rfl) ?_
  intro pr en s0 m args below meth cd hx hb hml hr hlk hts hown htab hsz hP hO hC hT hN ls hl
  subst hsz
  have hS : va_S A s0.heap s0.heap [] := va_S.rf
  have hfx : CallFix pr m cd cL_deliver 4 s0 args wsL_deliver RL := ⟨hx, hb, hml, hown, hts⟩
  have hl : lv_has ls 4 [(0, .ref (a 0)), (1, .int x), (2, .ref o)] := hl
  have ho9 : ¬ A1 a n s0.heap.size o := A1_out ho (hO 0 _ rfl).lt
  refine lv_aload_n hx hb dL_deliver_0 rfl (lv_at hl 2 rfl) ?_
  refine k_ic (x := 0) hx hb dL_deliver_1 (by decide) ?_
  refine lv_aload_n hx hb dL_deliver_2 rfl (lv_at hl 0 rfl) ?_
  refine lv_iload_n hx hb dL_deliver_3 rfl (lv_at hl 1 rfl) ?_
  refine kX_i (As := [.int x]) (b := a 0) (rest := [.int (nI 0), .ref o]) (B1 := A1 a n s0.heap.size) hfx (hM _ (A1_ap hA)) (cwV 1 hts gL_deliver_X3_deliver rfl rfl rfl (by decide +kernel) ⟨by decide, by decide⟩) (va_recv hC.1 hP (ci := 3) rfl wC_obj) hC (hT.narrow (A1_in hA hz9)) hP hS (A1_in hA hz9) rfl hl.1 rfl (Nat.le_of_ble_eq_true rfl) dL_deliver_4 ⟨by decide, by decide⟩ (fun ce q9 H locs hP hS hz1 hk1 h1 h2 h3 => ?_)
  have hO : va_P g.1 vwCl (oC g o f) H := hO.kept (fun k q hq => by (have hj := (List.getElem?_eq_some_iff.mp hq).1); (obtain rfl : k = 0 := by simp at *; omega); cases hq; exact hk1 o (hO 0 _ rfl).lt ho9)
  refine vx_catch (own := RL) (name := eIA) hown [] ⟨0, 9, 12, 13⟩ [⟨0, 9, 15, 15⟩, ⟨0, 9, 18, 24⟩] (by rw [htab]; rfl) (fun z hz => absurd hz List.not_mem_nil) (by decide) (by decide) (hts (.classLink RL 13 eIA) (by decide +kernel)) (va_Nw.use rfl (hT.2.2.2 (.castable eIA eIA) (by decide +kernel))) h1 h2 h3 ?_
  refine lv_astore_n (lv' := [(3, .ref q9), (0, .ref (a 0)), (1, .int x), (2, .ref o)]) hx hb dL_deliver_12 rfl hl (by decide) rfl (fun ls hl => ?_)
  refine k_ic (x := 1) hx hb dL_deliver_13 (by decide) ?_
  exact k_iretW hx hb hr hlk rfl hP hO hS dL_deliver_14
set_option maxHeartbeats 4000000 in
set_option maxRecDepth 100000 in
theorem w_deliver_is (l : Launch) {g : GG} {sa : Nat → Nat} {a : Nat → Nat} {n : Nat} {A : Nat → Prop} (hA : Ap A a (5 + 7 * n)) {s s2 : CS} {o sz : Nat} {f : Nat → Int64} (hAo : A o) (ho : ∀ k, k < 5 + 7 * n → a k ≠ o) (hz9 : ∀ q, sz ≤ q → A q) {x : Int32} (hM : ∀ B : Nat → Prop, Ap B a (5 + 7 * n) → vx_Met l yX3_deliver wsX3_deliver ({ frames := 6, cells := 1, slots := 6, locals := 87 }) (pT g sa B [.ref (a 0), .int x] (wC g a n s)) (qF B) (xC g eIS (wC g a n s) B) 1 6 B) : Met l yL_deliver wsL_deliver ({ frames := 7, cells := 1, slots := 6, locals := 110 }) (pW g sa A [.ref (a 0), .int x, .ref o] a n s o f sz) (qW g (nI 2) a n s o f A) 1 6 A := by
  refine k_startW (cc := cL_deliver) (maxL := 4) (hh := [(0, 9, 12, 13), (0, 9, 15, 15), (0, 9, 18, 24)]) (by decide) rfl (Nat.le_of_ble_eq_true rfl) ?_
  intro pr en s0 m args below meth cd hx hb hml hr hlk hts hown htab hsz hP hO hC hT hN ls hl
  subst hsz
  have hS : va_S A s0.heap s0.heap [] := va_S.rf
  have hfx : CallFix pr m cd cL_deliver 4 s0 args wsL_deliver RL := ⟨hx, hb, hml, hown, hts⟩
  have hl : lv_has ls 4 [(0, .ref (a 0)), (1, .int x), (2, .ref o)] := hl
  have ho9 : ¬ A1 a n s0.heap.size o := A1_out ho (hO 0 _ rfl).lt
  refine lv_aload_n hx hb dL_deliver_0 rfl (lv_at hl 2 rfl) ?_
  refine k_ic (x := 0) hx hb dL_deliver_1 (by decide) ?_
  refine lv_aload_n hx hb dL_deliver_2 rfl (lv_at hl 0 rfl) ?_
  refine lv_iload_n hx hb dL_deliver_3 rfl (lv_at hl 1 rfl) ?_
  refine kX_i (As := [.int x]) (b := a 0) (rest := [.int (nI 0), .ref o]) (B1 := A1 a n s0.heap.size) hfx (hM _ (A1_ap hA)) (cwV 1 hts gL_deliver_X3_deliver rfl rfl rfl (by decide +kernel) ⟨by decide, by decide⟩) (va_recv hC.1 hP (ci := 3) rfl wC_obj) hC (hT.narrow (A1_in hA hz9)) hP hS (A1_in hA hz9) rfl hl.1 rfl (Nat.le_of_ble_eq_true rfl) dL_deliver_4 ⟨by decide, by decide⟩ (fun ce q9 H locs hP hS hz1 hk1 h1 h2 h3 => ?_)
  have hO : va_P g.1 vwCl (oC g o f) H := hO.kept (fun k q hq => by (have hj := (List.getElem?_eq_some_iff.mp hq).1); (obtain rfl : k = 0 := by simp at *; omega); cases hq; exact hk1 o (hO 0 _ rfl).lt ho9)
  refine vx_catch (own := RL) (name := eIS) hown [⟨0, 9, 12, 13⟩] ⟨0, 9, 15, 15⟩ [⟨0, 9, 18, 24⟩] (by rw [htab]; rfl) (fun z hz => Or.inr (by cases List.mem_singleton.mp hz; exact ⟨by decide, eIA, hts (.classLink RL 13 eIA) (by decide +kernel), hN.1⟩)) (by decide) (by decide) (hts (.classLink RL 15 eIS) (by decide +kernel)) (va_Nw.use rfl (hT.2.2.2 (.castable eIS eIS) (by decide +kernel))) h1 h2 h3 ?_
  refine lv_astore_n (lv' := [(3, .ref q9), (0, .ref (a 0)), (1, .int x), (2, .ref o)]) hx hb dL_deliver_15 rfl hl (by decide) rfl (fun ls hl => ?_)
  refine k_ic (x := 2) hx hb dL_deliver_16 (by decide) ?_
  exact k_iretW hx hb hr hlk rfl hP hO hS dL_deliver_17
set_option maxHeartbeats 4000000 in
set_option maxRecDepth 100000 in
theorem w_deliver_ns (l : Launch) {g : GG} {sa : Nat → Nat} {a : Nat → Nat} {n : Nat} {A : Nat → Prop} (hA : Ap A a (5 + 7 * n)) {s s2 : CS} {o sz : Nat} {f : Nat → Int64} (hAo : A o) (ho : ∀ k, k < 5 + 7 * n → a k ≠ o) (hz9 : ∀ q, sz ≤ q → A q) {x : Int32} (hM : ∀ B : Nat → Prop, Ap B a (5 + 7 * n) → vx_Met l yX3_deliver wsX3_deliver ({ frames := 6, cells := 1, slots := 6, locals := 87 }) (pT g sa B [.ref (a 0), .int x] (wC g a n s)) (qF B) (xC g nx_n (wC g a n s) B) 1 6 B) : Met l yL_deliver wsL_deliver ({ frames := 7, cells := 1, slots := 6, locals := 110 }) (pW g sa A [.ref (a 0), .int x, .ref o] a n s o f sz) (qW g (nI 3) a n s o f A) 1 6 A := by
  refine k_startW (cc := cL_deliver) (maxL := 4) (hh := [(0, 9, 12, 13), (0, 9, 15, 15), (0, 9, 18, 24)]) (by decide) rfl (Nat.le_of_ble_eq_true rfl) ?_
  intro pr en s0 m args below meth cd hx hb hml hr hlk hts hown htab hsz hP hO hC hT hN ls hl
  subst hsz
  have hS : va_S A s0.heap s0.heap [] := va_S.rf
  have hfx : CallFix pr m cd cL_deliver 4 s0 args wsL_deliver RL := ⟨hx, hb, hml, hown, hts⟩
  have hl : lv_has ls 4 [(0, .ref (a 0)), (1, .int x), (2, .ref o)] := hl
  have ho9 : ¬ A1 a n s0.heap.size o := A1_out ho (hO 0 _ rfl).lt
  refine lv_aload_n hx hb dL_deliver_0 rfl (lv_at hl 2 rfl) ?_
  refine k_ic (x := 0) hx hb dL_deliver_1 (by decide) ?_
  refine lv_aload_n hx hb dL_deliver_2 rfl (lv_at hl 0 rfl) ?_
  refine lv_iload_n hx hb dL_deliver_3 rfl (lv_at hl 1 rfl) ?_
  refine kX_i (As := [.int x]) (b := a 0) (rest := [.int (nI 0), .ref o]) (B1 := A1 a n s0.heap.size) hfx (hM _ (A1_ap hA)) (cwV 1 hts gL_deliver_X3_deliver rfl rfl rfl (by decide +kernel) ⟨by decide, by decide⟩) (va_recv hC.1 hP (ci := 3) rfl wC_obj) hC (hT.narrow (A1_in hA hz9)) hP hS (A1_in hA hz9) rfl hl.1 rfl (Nat.le_of_ble_eq_true rfl) dL_deliver_4 ⟨by decide, by decide⟩ (fun ce q9 H locs hP hS hz1 hk1 h1 h2 h3 => ?_)
  have hO : va_P g.1 vwCl (oC g o f) H := hO.kept (fun k q hq => by (have hj := (List.getElem?_eq_some_iff.mp hq).1); (obtain rfl : k = 0 := by simp at *; omega); cases hq; exact hk1 o (hO 0 _ rfl).lt ho9)
  refine vx_catch (own := RL) (name := nx_n) hown [⟨0, 9, 12, 13⟩, ⟨0, 9, 15, 15⟩] ⟨0, 9, 18, 24⟩ [] (by rw [htab]; rfl) (fun z hz => Or.inr (by rcases List.mem_cons.mp hz with rfl | hz; exact ⟨by decide, eIA, hts (.classLink RL 13 eIA) (by decide +kernel), hN.2.1⟩; cases List.mem_singleton.mp hz; exact ⟨by decide, eIS, hts (.classLink RL 15 eIS) (by decide +kernel), hN.2.2⟩)) (by decide) (by decide) (hts (.classLink RL 24 nx_n) (by decide +kernel)) (va_Nw.use rfl (hT.2.2.2 (.castable nx_n nx_n) (by decide +kernel))) h1 h2 h3 ?_
  refine lv_astore_n (lv' := [(3, .ref q9), (0, .ref (a 0)), (1, .int x), (2, .ref o)]) hx hb dL_deliver_18 rfl hl (by decide) rfl (fun ls hl => ?_)
  refine k_ic (x := 3) hx hb dL_deliver_19 (by decide) ?_
  exact k_iretW hx hb hr hlk rfl hP hO hS dL_deliver_20
set_option maxHeartbeats 4000000 in
set_option maxRecDepth 100000 in
theorem w_acknowledge (l : Launch) {g : GG} {sa : Nat → Nat} {a : Nat → Nat} {n : Nat} {A : Nat → Prop} (hA : Ap A a (5 + 7 * n)) {s s2 : CS} {o sz : Nat} {f : Nat → Int64} (hAo : A o) (ho : ∀ k, k < 5 + 7 * n → a k ≠ o) (hz9 : ∀ q, sz ≤ q → A q) {x : Int32} {r : Int32} (hM : ∀ B : Nat → Prop, Ap B a (5 + 7 * n) → Met l yX3_acknowledge wsX3_acknowledge ({ frames := 3, cells := 0, slots := 0, locals := 64 }) (pC g [.ref (a 0), .int x] (wC g a n s)) (qI g (r) (wC g a n s2) B) 0 0 B) : Met l yL_acknowledge wsL_acknowledge ({ frames := 4, cells := 1, slots := 6, locals := 87 }) (pW g sa A [.ref (a 0), .int x, .ref o] a n s o f sz) (qW g (nI 0) a n s2 o (vp_updL f 0 r.toInt64) A) 1 6 A := by
  refine k_startW (cc := cL_acknowledge) (maxL := 4) (hh := [(0, 9, 12, 13), (0, 9, 15, 15), (0, 9, 18, 24)]) (by decide) rfl (Nat.le_of_ble_eq_true rfl) ?_
  intro pr en s0 m args below meth cd hx hb hml hr hlk hts hown htab hsz hP hO hC hT hN ls hl
  subst hsz
  have hS : va_S A s0.heap s0.heap [] := va_S.rf
  have hfx : CallFix pr m cd cL_acknowledge 4 s0 args wsL_acknowledge RL := ⟨hx, hb, hml, hown, hts⟩
  have hl : lv_has ls 4 [(0, .ref (a 0)), (1, .int x), (2, .ref o)] := hl
  have ho9 : ¬ A1 a n s0.heap.size o := A1_out ho (hO 0 _ rfl).lt
  refine lv_aload_n hx hb dL_acknowledge_0 rfl (lv_at hl 2 rfl) ?_
  refine k_ic (x := 0) hx hb dL_acknowledge_1 (by decide) ?_
  refine lv_aload_n hx hb dL_acknowledge_2 rfl (lv_at hl 0 rfl) ?_
  refine lv_iload_n hx hb dL_acknowledge_3 rfl (lv_at hl 1 rfl) ?_
  refine kV_i (r := r) (w2 := wC g a n s2) (As := [.int x]) (b := a 0) (rest := [.int (nI 0), .ref o]) (A1 := A1 a n s0.heap.size) hfx (hM _ (A1_ap hA)) (cwV 1 hts gL_acknowledge_X3_acknowledge rfl rfl rfl (by decide +kernel) ⟨by decide, by decide⟩) (va_recv hC.1 hP (ci := 3) rfl wC_obj) hC hP hS (A1_in hA hz9) rfl hl.1 rfl (Nat.le_of_ble_eq_true rfl) dL_acknowledge_4 ⟨Nat.le_of_ble_eq_true rfl, Nat.le_of_ble_eq_true rfl⟩ (fun H locs hP hS hz1 hk1 => ?_)
  have hO : va_P g.1 vwCl (oC g o f) H := hO.kept (fun k q hq => by (have hj := (List.getElem?_eq_some_iff.mp hq).1); (obtain rfl : k = 0 := by simp at *; omega); cases hq; exact hk1 o (hO 0 _ rfl).lt ho9)
  have hPO := va_P.app hP hO
  refine lv_i2l (v := r.toInt64) hx hb dL_acknowledge_7 rfl ?_
  refine va_last hx hb hC.1 hPO (wO_D hA hAo ho) hS _ 3 wO_get rfl (vp_in_nI (n := 0) (by decide) (by decide)) dL_acknowledge_8 (fun H locs hPO _ hS => ?_)
  have hPO := P_eq wO_set hPO
  refine lv_goto (tgt := 21) hx hb dL_acknowledge_9 (by decide) ?_
  refine k_ic (x := 0) hx hb dL_acknowledge_21 (by decide) ?_
  refine W.widen (k := 1) (n := 6) (by decide) (by decide) ?_
  exact k_iretW hx hb hr hlk rfl (wO_l hPO) (by have q := sub_app hPO; rw [nI_clamp (by decide)] at q; exact q) hS dL_acknowledge_22
set_option maxHeartbeats 4000000 in
set_option maxRecDepth 100000 in
theorem w_acknowledge_ia (l : Launch) {g : GG} {sa : Nat → Nat} {a : Nat → Nat} {n : Nat} {A : Nat → Prop} (hA : Ap A a (5 + 7 * n)) {s s2 : CS} {o sz : Nat} {f : Nat → Int64} (hAo : A o) (ho : ∀ k, k < 5 + 7 * n → a k ≠ o) (hz9 : ∀ q, sz ≤ q → A q) {x : Int32} (hM : ∀ B : Nat → Prop, Ap B a (5 + 7 * n) → vx_Met l yX3_acknowledge wsX3_acknowledge ({ frames := 6, cells := 1, slots := 6, locals := 82 }) (pT g sa B [.ref (a 0), .int x] (wC g a n s)) (qF B) (xC g eIA (wC g a n s) B) 1 6 B) : Met l yL_acknowledge wsL_acknowledge ({ frames := 7, cells := 1, slots := 6, locals := 105 }) (pW g sa A [.ref (a 0), .int x, .ref o] a n s o f sz) (qW g (nI 1) a n s o f A) 1 6 A := by
  refine k_startW (cc := cL_acknowledge) (maxL := 4) (hh := [(0, 9, 12, 13), (0, 9, 15, 15), (0, 9, 18, 24)]) (by decide) rfl (Nat.le_of_ble_eq_true rfl) ?_
  intro pr en s0 m args below meth cd hx hb hml hr hlk hts hown htab hsz hP hO hC hT hN ls hl
  subst hsz
  have hS : va_S A s0.heap s0.heap [] := va_S.rf
  have hfx : CallFix pr m cd cL_acknowledge 4 s0 args wsL_acknowledge RL := ⟨hx, hb, hml, hown, hts⟩
  have hl : lv_has ls 4 [(0, .ref (a 0)), (1, .int x), (2, .ref o)] := hl
  have ho9 : ¬ A1 a n s0.heap.size o := A1_out ho (hO 0 _ rfl).lt
  refine lv_aload_n hx hb dL_acknowledge_0 rfl (lv_at hl 2 rfl) ?_
  refine k_ic (x := 0) hx hb dL_acknowledge_1 (by decide) ?_
  refine lv_aload_n hx hb dL_acknowledge_2 rfl (lv_at hl 0 rfl) ?_
  refine lv_iload_n hx hb dL_acknowledge_3 rfl (lv_at hl 1 rfl) ?_
  refine kX_i (As := [.int x]) (b := a 0) (rest := [.int (nI 0), .ref o]) (B1 := A1 a n s0.heap.size) hfx (hM _ (A1_ap hA)) (cwV 1 hts gL_acknowledge_X3_acknowledge rfl rfl rfl (by decide +kernel) ⟨by decide, by decide⟩) (va_recv hC.1 hP (ci := 3) rfl wC_obj) hC (hT.narrow (A1_in hA hz9)) hP hS (A1_in hA hz9) rfl hl.1 rfl (Nat.le_of_ble_eq_true rfl) dL_acknowledge_4 ⟨by decide, by decide⟩ (fun ce q9 H locs hP hS hz1 hk1 h1 h2 h3 => ?_)
  have hO : va_P g.1 vwCl (oC g o f) H := hO.kept (fun k q hq => by (have hj := (List.getElem?_eq_some_iff.mp hq).1); (obtain rfl : k = 0 := by simp at *; omega); cases hq; exact hk1 o (hO 0 _ rfl).lt ho9)
  refine vx_catch (own := RL) (name := eIA) hown [] ⟨0, 9, 12, 13⟩ [⟨0, 9, 15, 15⟩, ⟨0, 9, 18, 24⟩] (by rw [htab]; rfl) (fun z hz => absurd hz List.not_mem_nil) (by decide) (by decide) (hts (.classLink RL 13 eIA) (by decide +kernel)) (va_Nw.use rfl (hT.2.2.2 (.castable eIA eIA) (by decide +kernel))) h1 h2 h3 ?_
  refine lv_astore_n (lv' := [(3, .ref q9), (0, .ref (a 0)), (1, .int x), (2, .ref o)]) hx hb dL_acknowledge_12 rfl hl (by decide) rfl (fun ls hl => ?_)
  refine k_ic (x := 1) hx hb dL_acknowledge_13 (by decide) ?_
  exact k_iretW hx hb hr hlk rfl hP hO hS dL_acknowledge_14
set_option maxHeartbeats 4000000 in
set_option maxRecDepth 100000 in
theorem w_acknowledge_is (l : Launch) {g : GG} {sa : Nat → Nat} {a : Nat → Nat} {n : Nat} {A : Nat → Prop} (hA : Ap A a (5 + 7 * n)) {s s2 : CS} {o sz : Nat} {f : Nat → Int64} (hAo : A o) (ho : ∀ k, k < 5 + 7 * n → a k ≠ o) (hz9 : ∀ q, sz ≤ q → A q) {x : Int32} (hM : ∀ B : Nat → Prop, Ap B a (5 + 7 * n) → vx_Met l yX3_acknowledge wsX3_acknowledge ({ frames := 6, cells := 1, slots := 6, locals := 82 }) (pT g sa B [.ref (a 0), .int x] (wC g a n s)) (qF B) (xC g eIS (wC g a n s) B) 1 6 B) : Met l yL_acknowledge wsL_acknowledge ({ frames := 7, cells := 1, slots := 6, locals := 105 }) (pW g sa A [.ref (a 0), .int x, .ref o] a n s o f sz) (qW g (nI 2) a n s o f A) 1 6 A := by
  refine k_startW (cc := cL_acknowledge) (maxL := 4) (hh := [(0, 9, 12, 13), (0, 9, 15, 15), (0, 9, 18, 24)]) (by decide) rfl (Nat.le_of_ble_eq_true rfl) ?_
  intro pr en s0 m args below meth cd hx hb hml hr hlk hts hown htab hsz hP hO hC hT hN ls hl
  subst hsz
  have hS : va_S A s0.heap s0.heap [] := va_S.rf
  have hfx : CallFix pr m cd cL_acknowledge 4 s0 args wsL_acknowledge RL := ⟨hx, hb, hml, hown, hts⟩
  have hl : lv_has ls 4 [(0, .ref (a 0)), (1, .int x), (2, .ref o)] := hl
  have ho9 : ¬ A1 a n s0.heap.size o := A1_out ho (hO 0 _ rfl).lt
  refine lv_aload_n hx hb dL_acknowledge_0 rfl (lv_at hl 2 rfl) ?_
  refine k_ic (x := 0) hx hb dL_acknowledge_1 (by decide) ?_
  refine lv_aload_n hx hb dL_acknowledge_2 rfl (lv_at hl 0 rfl) ?_
  refine lv_iload_n hx hb dL_acknowledge_3 rfl (lv_at hl 1 rfl) ?_
  refine kX_i (As := [.int x]) (b := a 0) (rest := [.int (nI 0), .ref o]) (B1 := A1 a n s0.heap.size) hfx (hM _ (A1_ap hA)) (cwV 1 hts gL_acknowledge_X3_acknowledge rfl rfl rfl (by decide +kernel) ⟨by decide, by decide⟩) (va_recv hC.1 hP (ci := 3) rfl wC_obj) hC (hT.narrow (A1_in hA hz9)) hP hS (A1_in hA hz9) rfl hl.1 rfl (Nat.le_of_ble_eq_true rfl) dL_acknowledge_4 ⟨by decide, by decide⟩ (fun ce q9 H locs hP hS hz1 hk1 h1 h2 h3 => ?_)
  have hO : va_P g.1 vwCl (oC g o f) H := hO.kept (fun k q hq => by (have hj := (List.getElem?_eq_some_iff.mp hq).1); (obtain rfl : k = 0 := by simp at *; omega); cases hq; exact hk1 o (hO 0 _ rfl).lt ho9)
  refine vx_catch (own := RL) (name := eIS) hown [⟨0, 9, 12, 13⟩] ⟨0, 9, 15, 15⟩ [⟨0, 9, 18, 24⟩] (by rw [htab]; rfl) (fun z hz => Or.inr (by cases List.mem_singleton.mp hz; exact ⟨by decide, eIA, hts (.classLink RL 13 eIA) (by decide +kernel), hN.1⟩)) (by decide) (by decide) (hts (.classLink RL 15 eIS) (by decide +kernel)) (va_Nw.use rfl (hT.2.2.2 (.castable eIS eIS) (by decide +kernel))) h1 h2 h3 ?_
  refine lv_astore_n (lv' := [(3, .ref q9), (0, .ref (a 0)), (1, .int x), (2, .ref o)]) hx hb dL_acknowledge_15 rfl hl (by decide) rfl (fun ls hl => ?_)
  refine k_ic (x := 2) hx hb dL_acknowledge_16 (by decide) ?_
  exact k_iretW hx hb hr hlk rfl hP hO hS dL_acknowledge_17
set_option maxHeartbeats 4000000 in
set_option maxRecDepth 100000 in
theorem w_acknowledge_ns (l : Launch) {g : GG} {sa : Nat → Nat} {a : Nat → Nat} {n : Nat} {A : Nat → Prop} (hA : Ap A a (5 + 7 * n)) {s s2 : CS} {o sz : Nat} {f : Nat → Int64} (hAo : A o) (ho : ∀ k, k < 5 + 7 * n → a k ≠ o) (hz9 : ∀ q, sz ≤ q → A q) {x : Int32} (hM : ∀ B : Nat → Prop, Ap B a (5 + 7 * n) → vx_Met l yX3_acknowledge wsX3_acknowledge ({ frames := 6, cells := 1, slots := 6, locals := 82 }) (pT g sa B [.ref (a 0), .int x] (wC g a n s)) (qF B) (xC g nx_n (wC g a n s) B) 1 6 B) : Met l yL_acknowledge wsL_acknowledge ({ frames := 7, cells := 1, slots := 6, locals := 105 }) (pW g sa A [.ref (a 0), .int x, .ref o] a n s o f sz) (qW g (nI 3) a n s o f A) 1 6 A := by
  refine k_startW (cc := cL_acknowledge) (maxL := 4) (hh := [(0, 9, 12, 13), (0, 9, 15, 15), (0, 9, 18, 24)]) (by decide) rfl (Nat.le_of_ble_eq_true rfl) ?_
  intro pr en s0 m args below meth cd hx hb hml hr hlk hts hown htab hsz hP hO hC hT hN ls hl
  subst hsz
  have hS : va_S A s0.heap s0.heap [] := va_S.rf
  have hfx : CallFix pr m cd cL_acknowledge 4 s0 args wsL_acknowledge RL := ⟨hx, hb, hml, hown, hts⟩
  have hl : lv_has ls 4 [(0, .ref (a 0)), (1, .int x), (2, .ref o)] := hl
  have ho9 : ¬ A1 a n s0.heap.size o := A1_out ho (hO 0 _ rfl).lt
  refine lv_aload_n hx hb dL_acknowledge_0 rfl (lv_at hl 2 rfl) ?_
  refine k_ic (x := 0) hx hb dL_acknowledge_1 (by decide) ?_
  refine lv_aload_n hx hb dL_acknowledge_2 rfl (lv_at hl 0 rfl) ?_
  refine lv_iload_n hx hb dL_acknowledge_3 rfl (lv_at hl 1 rfl) ?_
  refine kX_i (As := [.int x]) (b := a 0) (rest := [.int (nI 0), .ref o]) (B1 := A1 a n s0.heap.size) hfx (hM _ (A1_ap hA)) (cwV 1 hts gL_acknowledge_X3_acknowledge rfl rfl rfl (by decide +kernel) ⟨by decide, by decide⟩) (va_recv hC.1 hP (ci := 3) rfl wC_obj) hC (hT.narrow (A1_in hA hz9)) hP hS (A1_in hA hz9) rfl hl.1 rfl (Nat.le_of_ble_eq_true rfl) dL_acknowledge_4 ⟨by decide, by decide⟩ (fun ce q9 H locs hP hS hz1 hk1 h1 h2 h3 => ?_)
  have hO : va_P g.1 vwCl (oC g o f) H := hO.kept (fun k q hq => by (have hj := (List.getElem?_eq_some_iff.mp hq).1); (obtain rfl : k = 0 := by simp at *; omega); cases hq; exact hk1 o (hO 0 _ rfl).lt ho9)
  refine vx_catch (own := RL) (name := nx_n) hown [⟨0, 9, 12, 13⟩, ⟨0, 9, 15, 15⟩] ⟨0, 9, 18, 24⟩ [] (by rw [htab]; rfl) (fun z hz => Or.inr (by rcases List.mem_cons.mp hz with rfl | hz; exact ⟨by decide, eIA, hts (.classLink RL 13 eIA) (by decide +kernel), hN.2.1⟩; cases List.mem_singleton.mp hz; exact ⟨by decide, eIS, hts (.classLink RL 15 eIS) (by decide +kernel), hN.2.2⟩)) (by decide) (by decide) (hts (.classLink RL 24 nx_n) (by decide +kernel)) (va_Nw.use rfl (hT.2.2.2 (.castable nx_n nx_n) (by decide +kernel))) h1 h2 h3 ?_
  refine lv_astore_n (lv' := [(3, .ref q9), (0, .ref (a 0)), (1, .int x), (2, .ref o)]) hx hb dL_acknowledge_18 rfl hl (by decide) rfl (fun ls hl => ?_)
  refine k_ic (x := 3) hx hb dL_acknowledge_19 (by decide) ?_
  exact k_iretW hx hb hr hlk rfl hP hO hS dL_acknowledge_20
set_option maxHeartbeats 4000000 in
set_option maxRecDepth 100000 in
theorem w_fail (l : Launch) {g : GG} {sa : Nat → Nat} {a : Nat → Nat} {n : Nat} {A : Nat → Prop} (hA : Ap A a (5 + 7 * n)) {s s2 : CS} {o sz : Nat} {f : Nat → Int64} (hAo : A o) (ho : ∀ k, k < 5 + 7 * n → a k ≠ o) (hz9 : ∀ q, sz ≤ q → A q) {x : Int32} {b : Nat} (hb1 : b ≤ 1) (hM : ∀ B : Nat → Prop, Ap B a (5 + 7 * n) → Met l yX3_fail wsX3_fail ({ frames := 3, cells := 0, slots := 0, locals := 61 }) (pC g [.ref (a 0), .int x] (wC g a n s)) (qI g (nI b) (wC g a n s2) B) 0 0 B) : Met l yL_fail wsL_fail ({ frames := 4, cells := 1, slots := 6, locals := 82 }) (pW g sa A [.ref (a 0), .int x, .ref o] a n s o f sz) (qW g (nI 0) a n s2 o (vp_updL f 0 (if b = 0 then 0 else 1)) A) 1 6 A := by
  refine k_startW (cc := cL_fail) (maxL := 4) (hh := [(0, 16, 19, 13)]) (by decide) rfl (Nat.le_of_ble_eq_true rfl) ?_
  intro pr en s0 m args below meth cd hx hb hml hr hlk hts hown htab hsz hP hO hC hT hN ls hl
  subst hsz
  have hS : va_S A s0.heap s0.heap [] := va_S.rf
  have hfx : CallFix pr m cd cL_fail 4 s0 args wsL_fail RL := ⟨hx, hb, hml, hown, hts⟩
  have hl : lv_has ls 4 [(0, .ref (a 0)), (1, .int x), (2, .ref o)] := hl
  have ho9 : ¬ A1 a n s0.heap.size o := A1_out ho (hO 0 _ rfl).lt
  refine lv_aload_n hx hb dL_fail_0 rfl (lv_at hl 2 rfl) ?_
  refine k_ic (x := 0) hx hb dL_fail_1 (by decide) ?_
  refine lv_aload_n hx hb dL_fail_2 rfl (lv_at hl 0 rfl) ?_
  refine lv_iload_n hx hb dL_fail_3 rfl (lv_at hl 1 rfl) ?_
  refine kV_i (r := nI b) (w2 := wC g a n s2) (As := [.int x]) (b := a 0) (rest := [.int (nI 0), .ref o]) (A1 := A1 a n s0.heap.size) hfx (hM _ (A1_ap hA)) (cwV 1 hts gL_fail_X3_fail rfl rfl rfl (by decide +kernel) ⟨by decide, by decide⟩) (va_recv hC.1 hP (ci := 3) rfl wC_obj) hC hP hS (A1_in hA hz9) rfl hl.1 rfl (Nat.le_of_ble_eq_true rfl) dL_fail_4 ⟨Nat.le_of_ble_eq_true rfl, Nat.le_of_ble_eq_true rfl⟩ (fun H locs hP hS hz1 hk1 => ?_)
  have hO : va_P g.1 vwCl (oC g o f) H := hO.kept (fun k q hq => by (have hj := (List.getElem?_eq_some_iff.mp hq).1); (obtain rfl : k = 0 := by simp at *; omega); cases hq; exact hk1 o (hO 0 _ rfl).lt ho9)
  have hPO := va_P.app hP hO
  refine k_if_eq (tgt := 14) hx hb dL_fail_7 (by decide) (by omega) (fun c7 => ?_) (fun c7 => ?_)
  · subst c7
    refine lv_lconst (v := 0) hx hb dL_fail_14 (by decide) ?_
    refine va_last hx hb hC.1 hPO (wO_D hA hAo ho) hS _ 3 wO_get rfl (vp_in_nI (n := 0) (by decide) (by decide)) dL_fail_15 (fun H locs hPO _ hS => ?_)
    have hPO := P_eq wO_set hPO
    refine lv_goto (tgt := 22) hx hb dL_fail_16 (by decide) ?_
    refine k_ic (x := 0) hx hb dL_fail_22 (by decide) ?_
    refine W.widen (k := 1) (n := 6) (by decide) (by decide) ?_
    exact k_iretW hx hb hr hlk rfl (wO_l hPO) (by have q := sub_app hPO; rw [nI_clamp (by decide)] at q; exact q) hS dL_fail_23
  · refine lv_lconst (v := 1) hx hb dL_fail_10 (by decide) ?_
    refine lv_goto (tgt := 15) hx hb dL_fail_11 (by decide) ?_
    refine va_last hx hb hC.1 hPO (wO_D hA hAo ho) hS _ 3 wO_get rfl (vp_in_nI (n := 0) (by decide) (by decide)) dL_fail_15 (fun H locs hPO _ hS => ?_)
    have hPO := P_eq wO_set hPO
    refine lv_goto (tgt := 22) hx hb dL_fail_16 (by decide) ?_
    refine k_ic (x := 0) hx hb dL_fail_22 (by decide) ?_
    refine W.widen (k := 1) (n := 6) (by decide) (by decide) ?_
    exact k_iretW hx hb hr hlk rfl (wO_l hPO) (by have q := sub_app hPO; rw [nI_clamp (by decide)] at q; exact (by rw [if_neg c7]; exact q)) hS dL_fail_23
set_option maxHeartbeats 4000000 in
set_option maxRecDepth 100000 in
theorem w_fail_ia (l : Launch) {g : GG} {sa : Nat → Nat} {a : Nat → Nat} {n : Nat} {A : Nat → Prop} (hA : Ap A a (5 + 7 * n)) {s s2 : CS} {o sz : Nat} {f : Nat → Int64} (hAo : A o) (ho : ∀ k, k < 5 + 7 * n → a k ≠ o) (hz9 : ∀ q, sz ≤ q → A q) {x : Int32} (hM : ∀ B : Nat → Prop, Ap B a (5 + 7 * n) → vx_Met l yX3_fail wsX3_fail ({ frames := 6, cells := 1, slots := 6, locals := 82 }) (pT g sa B [.ref (a 0), .int x] (wC g a n s)) (qF B) (xC g eIA (wC g a n s) B) 1 6 B) : Met l yL_fail wsL_fail ({ frames := 7, cells := 1, slots := 6, locals := 103 }) (pW g sa A [.ref (a 0), .int x, .ref o] a n s o f sz) (qW g (nI 1) a n s o f A) 1 6 A := by
  refine k_startW (cc := cL_fail) (maxL := 4) (hh := [(0, 16, 19, 13)]) (by decide) rfl (Nat.le_of_ble_eq_true rfl) ?_
  intro pr en s0 m args below meth cd hx hb hml hr hlk hts hown htab hsz hP hO hC hT hN ls hl
  subst hsz
  have hS : va_S A s0.heap s0.heap [] := va_S.rf
  have hfx : CallFix pr m cd cL_fail 4 s0 args wsL_fail RL := ⟨hx, hb, hml, hown, hts⟩
  have hl : lv_has ls 4 [(0, .ref (a 0)), (1, .int x), (2, .ref o)] := hl
  have ho9 : ¬ A1 a n s0.heap.size o := A1_out ho (hO 0 _ rfl).lt
  refine lv_aload_n hx hb dL_fail_0 rfl (lv_at hl 2 rfl) ?_
  refine k_ic (x := 0) hx hb dL_fail_1 (by decide) ?_
  refine lv_aload_n hx hb dL_fail_2 rfl (lv_at hl 0 rfl) ?_
  refine lv_iload_n hx hb dL_fail_3 rfl (lv_at hl 1 rfl) ?_
  refine kX_i (As := [.int x]) (b := a 0) (rest := [.int (nI 0), .ref o]) (B1 := A1 a n s0.heap.size) hfx (hM _ (A1_ap hA)) (cwV 1 hts gL_fail_X3_fail rfl rfl rfl (by decide +kernel) ⟨by decide, by decide⟩) (va_recv hC.1 hP (ci := 3) rfl wC_obj) hC (hT.narrow (A1_in hA hz9)) hP hS (A1_in hA hz9) rfl hl.1 rfl (Nat.le_of_ble_eq_true rfl) dL_fail_4 ⟨by decide, by decide⟩ (fun ce q9 H locs hP hS hz1 hk1 h1 h2 h3 => ?_)
  have hO : va_P g.1 vwCl (oC g o f) H := hO.kept (fun k q hq => by (have hj := (List.getElem?_eq_some_iff.mp hq).1); (obtain rfl : k = 0 := by simp at *; omega); cases hq; exact hk1 o (hO 0 _ rfl).lt ho9)
  refine vx_catch (own := RL) (name := eIA) hown [] ⟨0, 16, 19, 13⟩ [] (by rw [htab]; rfl) (fun z hz => absurd hz List.not_mem_nil) (by decide) (by decide) (hts (.classLink RL 13 eIA) (by decide +kernel)) (va_Nw.use rfl (hT.2.2.2 (.castable eIA eIA) (by decide +kernel))) h1 h2 h3 ?_
  refine lv_astore_n (lv' := [(3, .ref q9), (0, .ref (a 0)), (1, .int x), (2, .ref o)]) hx hb dL_fail_19 rfl hl (by decide) rfl (fun ls hl => ?_)
  refine k_ic (x := 1) hx hb dL_fail_20 (by decide) ?_
  exact k_iretW hx hb hr hlk rfl hP hO hS dL_fail_21
set_option maxHeartbeats 4000000 in
set_option maxRecDepth 100000 in
theorem w_resync (l : Launch) {g : GG} {sa : Nat → Nat} {a : Nat → Nat} {n : Nat} {A : Nat → Prop} (hA : Ap A a (5 + 7 * n)) {s s2 : CS} {o sz : Nat} {f : Nat → Int64} (hAo : A o) (ho : ∀ k, k < 5 + 7 * n → a k ≠ o) (hz9 : ∀ q, sz ≤ q → A q) {x : Int32} {r : Int32} (hM : ∀ B : Nat → Prop, Ap B a (5 + 7 * n) → Met l yX3_resync wsX3_resync ({ frames := 2, cells := 0, slots := 0, locals := 43 }) (pC g [.ref (a 0), .int x] (wC g a n s)) (qI g (r) (wC g a n s2) B) 0 0 B) : Met l yL_resync wsL_resync ({ frames := 3, cells := 1, slots := 6, locals := 69 }) (pW g sa A [.ref (a 0), .int x, .ref o] a n s o f sz) (qW g (nI 0) a n s2 o (vp_updL f 0 r.toInt64) A) 1 6 A := by
  refine k_startW (cc := cL_resync) (maxL := 4) (hh := [(0, 9, 12, 13), (0, 9, 15, 15)]) (by decide) rfl (Nat.le_of_ble_eq_true rfl) ?_
  intro pr en s0 m args below meth cd hx hb hml hr hlk hts hown htab hsz hP hO hC hT hN ls hl
  subst hsz
  have hS : va_S A s0.heap s0.heap [] := va_S.rf
  have hfx : CallFix pr m cd cL_resync 4 s0 args wsL_resync RL := ⟨hx, hb, hml, hown, hts⟩
  have hl : lv_has ls 4 [(0, .ref (a 0)), (1, .int x), (2, .ref o)] := hl
  have ho9 : ¬ A1 a n s0.heap.size o := A1_out ho (hO 0 _ rfl).lt
  refine lv_aload_n hx hb dL_resync_0 rfl (lv_at hl 2 rfl) ?_
  refine k_ic (x := 0) hx hb dL_resync_1 (by decide) ?_
  refine lv_aload_n hx hb dL_resync_2 rfl (lv_at hl 0 rfl) ?_
  refine lv_iload_n hx hb dL_resync_3 rfl (lv_at hl 1 rfl) ?_
  refine kV_i (r := r) (w2 := wC g a n s2) (As := [.int x]) (b := a 0) (rest := [.int (nI 0), .ref o]) (A1 := A1 a n s0.heap.size) hfx (hM _ (A1_ap hA)) (cwV 1 hts gL_resync_X3_resync rfl rfl rfl (by decide +kernel) ⟨by decide, by decide⟩) (va_recv hC.1 hP (ci := 3) rfl wC_obj) hC hP hS (A1_in hA hz9) rfl hl.1 rfl (Nat.le_of_ble_eq_true rfl) dL_resync_4 ⟨Nat.le_of_ble_eq_true rfl, Nat.le_of_ble_eq_true rfl⟩ (fun H locs hP hS hz1 hk1 => ?_)
  have hO : va_P g.1 vwCl (oC g o f) H := hO.kept (fun k q hq => by (have hj := (List.getElem?_eq_some_iff.mp hq).1); (obtain rfl : k = 0 := by simp at *; omega); cases hq; exact hk1 o (hO 0 _ rfl).lt ho9)
  have hPO := va_P.app hP hO
  refine lv_i2l (v := r.toInt64) hx hb dL_resync_7 rfl ?_
  refine va_last hx hb hC.1 hPO (wO_D hA hAo ho) hS _ 3 wO_get rfl (vp_in_nI (n := 0) (by decide) (by decide)) dL_resync_8 (fun H locs hPO _ hS => ?_)
  have hPO := P_eq wO_set hPO
  refine lv_goto (tgt := 18) hx hb dL_resync_9 (by decide) ?_
  refine k_ic (x := 0) hx hb dL_resync_18 (by decide) ?_
  refine W.widen (k := 1) (n := 6) (by decide) (by decide) ?_
  exact k_iretW hx hb hr hlk rfl (wO_l hPO) (by have q := sub_app hPO; rw [nI_clamp (by decide)] at q; exact q) hS dL_resync_19
set_option maxHeartbeats 4000000 in
set_option maxRecDepth 100000 in
theorem w_resync_ia (l : Launch) {g : GG} {sa : Nat → Nat} {a : Nat → Nat} {n : Nat} {A : Nat → Prop} (hA : Ap A a (5 + 7 * n)) {s s2 : CS} {o sz : Nat} {f : Nat → Int64} (hAo : A o) (ho : ∀ k, k < 5 + 7 * n → a k ≠ o) (hz9 : ∀ q, sz ≤ q → A q) {x : Int32} (hM : ∀ B : Nat → Prop, Ap B a (5 + 7 * n) → vx_Met l yX3_resync wsX3_resync ({ frames := 6, cells := 1, slots := 6, locals := 82 }) (pT g sa B [.ref (a 0), .int x] (wC g a n s)) (qF B) (xC g eIA (wC g a n s) B) 1 6 B) : Met l yL_resync wsL_resync ({ frames := 7, cells := 1, slots := 6, locals := 108 }) (pW g sa A [.ref (a 0), .int x, .ref o] a n s o f sz) (qW g (nI 1) a n s o f A) 1 6 A := by
  refine k_startW (cc := cL_resync) (maxL := 4) (hh := [(0, 9, 12, 13), (0, 9, 15, 15)]) (by decide) rfl (Nat.le_of_ble_eq_true rfl) ?_
  intro pr en s0 m args below meth cd hx hb hml hr hlk hts hown htab hsz hP hO hC hT hN ls hl
  subst hsz
  have hS : va_S A s0.heap s0.heap [] := va_S.rf
  have hfx : CallFix pr m cd cL_resync 4 s0 args wsL_resync RL := ⟨hx, hb, hml, hown, hts⟩
  have hl : lv_has ls 4 [(0, .ref (a 0)), (1, .int x), (2, .ref o)] := hl
  have ho9 : ¬ A1 a n s0.heap.size o := A1_out ho (hO 0 _ rfl).lt
  refine lv_aload_n hx hb dL_resync_0 rfl (lv_at hl 2 rfl) ?_
  refine k_ic (x := 0) hx hb dL_resync_1 (by decide) ?_
  refine lv_aload_n hx hb dL_resync_2 rfl (lv_at hl 0 rfl) ?_
  refine lv_iload_n hx hb dL_resync_3 rfl (lv_at hl 1 rfl) ?_
  refine kX_i (As := [.int x]) (b := a 0) (rest := [.int (nI 0), .ref o]) (B1 := A1 a n s0.heap.size) hfx (hM _ (A1_ap hA)) (cwV 1 hts gL_resync_X3_resync rfl rfl rfl (by decide +kernel) ⟨by decide, by decide⟩) (va_recv hC.1 hP (ci := 3) rfl wC_obj) hC (hT.narrow (A1_in hA hz9)) hP hS (A1_in hA hz9) rfl hl.1 rfl (Nat.le_of_ble_eq_true rfl) dL_resync_4 ⟨by decide, by decide⟩ (fun ce q9 H locs hP hS hz1 hk1 h1 h2 h3 => ?_)
  have hO : va_P g.1 vwCl (oC g o f) H := hO.kept (fun k q hq => by (have hj := (List.getElem?_eq_some_iff.mp hq).1); (obtain rfl : k = 0 := by simp at *; omega); cases hq; exact hk1 o (hO 0 _ rfl).lt ho9)
  refine vx_catch (own := RL) (name := eIA) hown [] ⟨0, 9, 12, 13⟩ [⟨0, 9, 15, 15⟩] (by rw [htab]; rfl) (fun z hz => absurd hz List.not_mem_nil) (by decide) (by decide) (hts (.classLink RL 13 eIA) (by decide +kernel)) (va_Nw.use rfl (hT.2.2.2 (.castable eIA eIA) (by decide +kernel))) h1 h2 h3 ?_
  refine lv_astore_n (lv' := [(3, .ref q9), (0, .ref (a 0)), (1, .int x), (2, .ref o)]) hx hb dL_resync_12 rfl hl (by decide) rfl (fun ls hl => ?_)
  refine k_ic (x := 1) hx hb dL_resync_13 (by decide) ?_
  exact k_iretW hx hb hr hlk rfl hP hO hS dL_resync_14
set_option maxHeartbeats 4000000 in
set_option maxRecDepth 100000 in
theorem w_resync_is (l : Launch) {g : GG} {sa : Nat → Nat} {a : Nat → Nat} {n : Nat} {A : Nat → Prop} (hA : Ap A a (5 + 7 * n)) {s s2 : CS} {o sz : Nat} {f : Nat → Int64} (hAo : A o) (ho : ∀ k, k < 5 + 7 * n → a k ≠ o) (hz9 : ∀ q, sz ≤ q → A q) {x : Int32} (hM : ∀ B : Nat → Prop, Ap B a (5 + 7 * n) → vx_Met l yX3_resync wsX3_resync ({ frames := 6, cells := 1, slots := 6, locals := 82 }) (pT g sa B [.ref (a 0), .int x] (wC g a n s)) (qF B) (xC g eIS (wC g a n s) B) 1 6 B) : Met l yL_resync wsL_resync ({ frames := 7, cells := 1, slots := 6, locals := 108 }) (pW g sa A [.ref (a 0), .int x, .ref o] a n s o f sz) (qW g (nI 2) a n s o f A) 1 6 A := by
  refine k_startW (cc := cL_resync) (maxL := 4) (hh := [(0, 9, 12, 13), (0, 9, 15, 15)]) (by decide) rfl (Nat.le_of_ble_eq_true rfl) ?_
  intro pr en s0 m args below meth cd hx hb hml hr hlk hts hown htab hsz hP hO hC hT hN ls hl
  subst hsz
  have hS : va_S A s0.heap s0.heap [] := va_S.rf
  have hfx : CallFix pr m cd cL_resync 4 s0 args wsL_resync RL := ⟨hx, hb, hml, hown, hts⟩
  have hl : lv_has ls 4 [(0, .ref (a 0)), (1, .int x), (2, .ref o)] := hl
  have ho9 : ¬ A1 a n s0.heap.size o := A1_out ho (hO 0 _ rfl).lt
  refine lv_aload_n hx hb dL_resync_0 rfl (lv_at hl 2 rfl) ?_
  refine k_ic (x := 0) hx hb dL_resync_1 (by decide) ?_
  refine lv_aload_n hx hb dL_resync_2 rfl (lv_at hl 0 rfl) ?_
  refine lv_iload_n hx hb dL_resync_3 rfl (lv_at hl 1 rfl) ?_
  refine kX_i (As := [.int x]) (b := a 0) (rest := [.int (nI 0), .ref o]) (B1 := A1 a n s0.heap.size) hfx (hM _ (A1_ap hA)) (cwV 1 hts gL_resync_X3_resync rfl rfl rfl (by decide +kernel) ⟨by decide, by decide⟩) (va_recv hC.1 hP (ci := 3) rfl wC_obj) hC (hT.narrow (A1_in hA hz9)) hP hS (A1_in hA hz9) rfl hl.1 rfl (Nat.le_of_ble_eq_true rfl) dL_resync_4 ⟨by decide, by decide⟩ (fun ce q9 H locs hP hS hz1 hk1 h1 h2 h3 => ?_)
  have hO : va_P g.1 vwCl (oC g o f) H := hO.kept (fun k q hq => by (have hj := (List.getElem?_eq_some_iff.mp hq).1); (obtain rfl : k = 0 := by simp at *; omega); cases hq; exact hk1 o (hO 0 _ rfl).lt ho9)
  refine vx_catch (own := RL) (name := eIS) hown [⟨0, 9, 12, 13⟩] ⟨0, 9, 15, 15⟩ [] (by rw [htab]; rfl) (fun z hz => Or.inr (by cases List.mem_singleton.mp hz; exact ⟨by decide, eIA, hts (.classLink RL 13 eIA) (by decide +kernel), hN.1⟩)) (by decide) (by decide) (hts (.classLink RL 15 eIS) (by decide +kernel)) (va_Nw.use rfl (hT.2.2.2 (.castable eIS eIS) (by decide +kernel))) h1 h2 h3 ?_
  refine lv_astore_n (lv' := [(3, .ref q9), (0, .ref (a 0)), (1, .int x), (2, .ref o)]) hx hb dL_resync_15 rfl hl (by decide) rfl (fun ls hl => ?_)
  refine k_ic (x := 2) hx hb dL_resync_16 (by decide) ?_
  exact k_iretW hx hb hr hlk rfl hP hO hS dL_resync_17
set_option maxHeartbeats 4000000 in
set_option maxRecDepth 100000 in
theorem w_valueAt (l : Launch) {g : GG} {sa : Nat → Nat} {a : Nat → Nat} {n : Nat} {A : Nat → Prop} (hA : Ap A a (5 + 7 * n)) {s s2 : CS} {o sz : Nat} {f : Nat → Int64} (hAo : A o) (ho : ∀ k, k < 5 + 7 * n → a k ≠ o) (hz9 : ∀ q, sz ≤ q → A q) {x y : Int32} {r : Int32} (hM : ∀ B : Nat → Prop, Ap B a (5 + 7 * n) → Met l yX3_valueAt wsX3_valueAt ({ frames := 1, cells := 0, slots := 0, locals := 21 }) (pC g [.ref (a 0), .int x, .int y] (wC g a n s)) (qI g (r) (wC g a n s2) B) 0 0 B) : Met l yL_valueAt wsL_valueAt ({ frames := 2, cells := 1, slots := 6, locals := 43 }) (pW g sa A [.ref (a 0), .int x, .int y, .ref o] a n s o f sz) (qW g (nI 0) a n s2 o (vp_updL f 0 r.toInt64) A) 1 6 A := by
  refine k_startW (cc := cL_valueAt) (maxL := 5) (hh := [(0, 10, 13, 13)]) (by decide) rfl (Nat.le_of_ble_eq_true rfl) ?_
  intro pr en s0 m args below meth cd hx hb hml hr hlk hts hown htab hsz hP hO hC hT hN ls hl
  subst hsz
  have hS : va_S A s0.heap s0.heap [] := va_S.rf
  have hfx : CallFix pr m cd cL_valueAt 5 s0 args wsL_valueAt RL := ⟨hx, hb, hml, hown, hts⟩
  have hl : lv_has ls 5 [(0, .ref (a 0)), (1, .int x), (2, .int y), (3, .ref o)] := hl
  have ho9 : ¬ A1 a n s0.heap.size o := A1_out ho (hO 0 _ rfl).lt
  refine lv_aload_n hx hb dL_valueAt_0 rfl (lv_at hl 3 rfl) ?_
  refine k_ic (x := 0) hx hb dL_valueAt_1 (by decide) ?_
  refine lv_aload_n hx hb dL_valueAt_2 rfl (lv_at hl 0 rfl) ?_
  refine lv_iload_n hx hb dL_valueAt_3 rfl (lv_at hl 1 rfl) ?_
  refine lv_iload_n hx hb dL_valueAt_4 rfl (lv_at hl 2 rfl) ?_
  refine kV_i (r := r) (w2 := wC g a n s2) (As := [.int x, .int y]) (b := a 0) (rest := [.int (nI 0), .ref o]) (A1 := A1 a n s0.heap.size) hfx (hM _ (A1_ap hA)) (cwV 2 hts gL_valueAt_X3_valueAt rfl rfl rfl (by decide +kernel) ⟨by decide, by decide⟩) (va_recv hC.1 hP (ci := 3) rfl wC_obj) hC hP hS (A1_in hA hz9) rfl hl.1 rfl (Nat.le_of_ble_eq_true rfl) dL_valueAt_5 ⟨Nat.le_of_ble_eq_true rfl, Nat.le_of_ble_eq_true rfl⟩ (fun H locs hP hS hz1 hk1 => ?_)
  have hO : va_P g.1 vwCl (oC g o f) H := hO.kept (fun k q hq => by (have hj := (List.getElem?_eq_some_iff.mp hq).1); (obtain rfl : k = 0 := by simp at *; omega); cases hq; exact hk1 o (hO 0 _ rfl).lt ho9)
  have hPO := va_P.app hP hO
  refine lv_i2l (v := r.toInt64) hx hb dL_valueAt_8 rfl ?_
  refine va_last hx hb hC.1 hPO (wO_D hA hAo ho) hS _ 3 wO_get rfl (vp_in_nI (n := 0) (by decide) (by decide)) dL_valueAt_9 (fun H locs hPO _ hS => ?_)
  have hPO := P_eq wO_set hPO
  refine lv_goto (tgt := 17) hx hb dL_valueAt_10 (by decide) ?_
  refine k_ic (x := 0) hx hb dL_valueAt_17 (by decide) ?_
  refine W.widen (k := 1) (n := 6) (by decide) (by decide) ?_
  exact k_iretW hx hb hr hlk rfl (wO_l hPO) (by have q := sub_app hPO; rw [nI_clamp (by decide)] at q; exact q) hS dL_valueAt_18
set_option maxHeartbeats 4000000 in
set_option maxRecDepth 100000 in
theorem w_valueAt_ia (l : Launch) {g : GG} {sa : Nat → Nat} {a : Nat → Nat} {n : Nat} {A : Nat → Prop} (hA : Ap A a (5 + 7 * n)) {s s2 : CS} {o sz : Nat} {f : Nat → Int64} (hAo : A o) (ho : ∀ k, k < 5 + 7 * n → a k ≠ o) (hz9 : ∀ q, sz ≤ q → A q) {x y : Int32} (hM : ∀ B : Nat → Prop, Ap B a (5 + 7 * n) → vx_Met l yX3_valueAt wsX3_valueAt ({ frames := 6, cells := 1, slots := 6, locals := 82 }) (pT g sa B [.ref (a 0), .int x, .int y] (wC g a n s)) (qF B) (xC g eIA (wC g a n s) B) 1 6 B) : Met l yL_valueAt wsL_valueAt ({ frames := 7, cells := 1, slots := 6, locals := 104 }) (pW g sa A [.ref (a 0), .int x, .int y, .ref o] a n s o f sz) (qW g (nI 1) a n s o f A) 1 6 A := by
  refine k_startW (cc := cL_valueAt) (maxL := 5) (hh := [(0, 10, 13, 13)]) (by decide) rfl (Nat.le_of_ble_eq_true rfl) ?_
  intro pr en s0 m args below meth cd hx hb hml hr hlk hts hown htab hsz hP hO hC hT hN ls hl
  subst hsz
  have hS : va_S A s0.heap s0.heap [] := va_S.rf
  have hfx : CallFix pr m cd cL_valueAt 5 s0 args wsL_valueAt RL := ⟨hx, hb, hml, hown, hts⟩
  have hl : lv_has ls 5 [(0, .ref (a 0)), (1, .int x), (2, .int y), (3, .ref o)] := hl
  have ho9 : ¬ A1 a n s0.heap.size o := A1_out ho (hO 0 _ rfl).lt
  refine lv_aload_n hx hb dL_valueAt_0 rfl (lv_at hl 3 rfl) ?_
  refine k_ic (x := 0) hx hb dL_valueAt_1 (by decide) ?_
  refine lv_aload_n hx hb dL_valueAt_2 rfl (lv_at hl 0 rfl) ?_
  refine lv_iload_n hx hb dL_valueAt_3 rfl (lv_at hl 1 rfl) ?_
  refine lv_iload_n hx hb dL_valueAt_4 rfl (lv_at hl 2 rfl) ?_
  refine kX_i (As := [.int x, .int y]) (b := a 0) (rest := [.int (nI 0), .ref o]) (B1 := A1 a n s0.heap.size) hfx (hM _ (A1_ap hA)) (cwV 2 hts gL_valueAt_X3_valueAt rfl rfl rfl (by decide +kernel) ⟨by decide, by decide⟩) (va_recv hC.1 hP (ci := 3) rfl wC_obj) hC (hT.narrow (A1_in hA hz9)) hP hS (A1_in hA hz9) rfl hl.1 rfl (Nat.le_of_ble_eq_true rfl) dL_valueAt_5 ⟨by decide, by decide⟩ (fun ce q9 H locs hP hS hz1 hk1 h1 h2 h3 => ?_)
  have hO : va_P g.1 vwCl (oC g o f) H := hO.kept (fun k q hq => by (have hj := (List.getElem?_eq_some_iff.mp hq).1); (obtain rfl : k = 0 := by simp at *; omega); cases hq; exact hk1 o (hO 0 _ rfl).lt ho9)
  refine vx_catch (own := RL) (name := eIA) hown [] ⟨0, 10, 13, 13⟩ [] (by rw [htab]; rfl) (fun z hz => absurd hz List.not_mem_nil) (by decide) (by decide) (hts (.classLink RL 13 eIA) (by decide +kernel)) (va_Nw.use rfl (hT.2.2.2 (.castable eIA eIA) (by decide +kernel))) h1 h2 h3 ?_
  refine lv_astore (lv' := [(4, .ref q9), (0, .ref (a 0)), (1, .int x), (2, .int y), (3, .ref o)]) hx hb dL_valueAt_13 hl (by decide) rfl (fun ls hl => ?_)
  refine k_ic (x := 1) hx hb dL_valueAt_15 (by decide) ?_
  exact k_iretW hx hb hr hlk rfl hP hO hS dL_valueAt_16
set_option maxHeartbeats 4000000 in
set_option maxRecDepth 100000 in
theorem w_history (l : Launch) {g : GG} {sa : Nat → Nat} {a : Nat → Nat} {n : Nat} {A : Nat → Prop} (hA : Ap A a (5 + 7 * n)) {s s2 : CS} {o sz : Nat} {f : Nat → Int64} (hAo : A o) (ho : ∀ k, k < 5 + 7 * n → a k ≠ o) (hz9 : ∀ q, sz ≤ q → A q) {x : Int32} {r : Int32} (hM : ∀ B : Nat → Prop, Ap B a (5 + 7 * n) → Met l yX3_history wsX3_history ({ frames := 1, cells := 0, slots := 0, locals := 21 }) (pC g [.ref (a 0), .int x] (wC g a n s)) (qI g (r) (wC g a n s2) B) 0 0 B) : Met l yL_history wsL_history ({ frames := 2, cells := 1, slots := 6, locals := 42 }) (pW g sa A [.ref (a 0), .int x, .ref o] a n s o f sz) (qW g (nI 0) a n s2 o (vp_updL f 0 r.toInt64) A) 1 6 A := by
  refine k_startW (cc := cL_history) (maxL := 4) (hh := [(0, 9, 12, 13)]) (by decide) rfl (Nat.le_of_ble_eq_true rfl) ?_
  intro pr en s0 m args below meth cd hx hb hml hr hlk hts hown htab hsz hP hO hC hT hN ls hl
  subst hsz
  have hS : va_S A s0.heap s0.heap [] := va_S.rf
  have hfx : CallFix pr m cd cL_history 4 s0 args wsL_history RL := ⟨hx, hb, hml, hown, hts⟩
  have hl : lv_has ls 4 [(0, .ref (a 0)), (1, .int x), (2, .ref o)] := hl
  have ho9 : ¬ A1 a n s0.heap.size o := A1_out ho (hO 0 _ rfl).lt
  refine lv_aload_n hx hb dL_history_0 rfl (lv_at hl 2 rfl) ?_
  refine k_ic (x := 0) hx hb dL_history_1 (by decide) ?_
  refine lv_aload_n hx hb dL_history_2 rfl (lv_at hl 0 rfl) ?_
  refine lv_iload_n hx hb dL_history_3 rfl (lv_at hl 1 rfl) ?_
  refine kV_i (r := r) (w2 := wC g a n s2) (As := [.int x]) (b := a 0) (rest := [.int (nI 0), .ref o]) (A1 := A1 a n s0.heap.size) hfx (hM _ (A1_ap hA)) (cwV 1 hts gL_history_X3_history rfl rfl rfl (by decide +kernel) ⟨by decide, by decide⟩) (va_recv hC.1 hP (ci := 3) rfl wC_obj) hC hP hS (A1_in hA hz9) rfl hl.1 rfl (Nat.le_of_ble_eq_true rfl) dL_history_4 ⟨Nat.le_of_ble_eq_true rfl, Nat.le_of_ble_eq_true rfl⟩ (fun H locs hP hS hz1 hk1 => ?_)
  have hO : va_P g.1 vwCl (oC g o f) H := hO.kept (fun k q hq => by (have hj := (List.getElem?_eq_some_iff.mp hq).1); (obtain rfl : k = 0 := by simp at *; omega); cases hq; exact hk1 o (hO 0 _ rfl).lt ho9)
  have hPO := va_P.app hP hO
  refine lv_i2l (v := r.toInt64) hx hb dL_history_7 rfl ?_
  refine va_last hx hb hC.1 hPO (wO_D hA hAo ho) hS _ 3 wO_get rfl (vp_in_nI (n := 0) (by decide) (by decide)) dL_history_8 (fun H locs hPO _ hS => ?_)
  have hPO := P_eq wO_set hPO
  refine lv_goto (tgt := 15) hx hb dL_history_9 (by decide) ?_
  refine k_ic (x := 0) hx hb dL_history_15 (by decide) ?_
  refine W.widen (k := 1) (n := 6) (by decide) (by decide) ?_
  exact k_iretW hx hb hr hlk rfl (wO_l hPO) (by have q := sub_app hPO; rw [nI_clamp (by decide)] at q; exact q) hS dL_history_16
set_option maxHeartbeats 4000000 in
set_option maxRecDepth 100000 in
theorem w_history_ia (l : Launch) {g : GG} {sa : Nat → Nat} {a : Nat → Nat} {n : Nat} {A : Nat → Prop} (hA : Ap A a (5 + 7 * n)) {s s2 : CS} {o sz : Nat} {f : Nat → Int64} (hAo : A o) (ho : ∀ k, k < 5 + 7 * n → a k ≠ o) (hz9 : ∀ q, sz ≤ q → A q) {x : Int32} (hM : ∀ B : Nat → Prop, Ap B a (5 + 7 * n) → vx_Met l yX3_history wsX3_history ({ frames := 6, cells := 1, slots := 6, locals := 82 }) (pT g sa B [.ref (a 0), .int x] (wC g a n s)) (qF B) (xC g eIA (wC g a n s) B) 1 6 B) : Met l yL_history wsL_history ({ frames := 7, cells := 1, slots := 6, locals := 103 }) (pW g sa A [.ref (a 0), .int x, .ref o] a n s o f sz) (qW g (nI 1) a n s o f A) 1 6 A := by
  refine k_startW (cc := cL_history) (maxL := 4) (hh := [(0, 9, 12, 13)]) (by decide) rfl (Nat.le_of_ble_eq_true rfl) ?_
  intro pr en s0 m args below meth cd hx hb hml hr hlk hts hown htab hsz hP hO hC hT hN ls hl
  subst hsz
  have hS : va_S A s0.heap s0.heap [] := va_S.rf
  have hfx : CallFix pr m cd cL_history 4 s0 args wsL_history RL := ⟨hx, hb, hml, hown, hts⟩
  have hl : lv_has ls 4 [(0, .ref (a 0)), (1, .int x), (2, .ref o)] := hl
  have ho9 : ¬ A1 a n s0.heap.size o := A1_out ho (hO 0 _ rfl).lt
  refine lv_aload_n hx hb dL_history_0 rfl (lv_at hl 2 rfl) ?_
  refine k_ic (x := 0) hx hb dL_history_1 (by decide) ?_
  refine lv_aload_n hx hb dL_history_2 rfl (lv_at hl 0 rfl) ?_
  refine lv_iload_n hx hb dL_history_3 rfl (lv_at hl 1 rfl) ?_
  refine kX_i (As := [.int x]) (b := a 0) (rest := [.int (nI 0), .ref o]) (B1 := A1 a n s0.heap.size) hfx (hM _ (A1_ap hA)) (cwV 1 hts gL_history_X3_history rfl rfl rfl (by decide +kernel) ⟨by decide, by decide⟩) (va_recv hC.1 hP (ci := 3) rfl wC_obj) hC (hT.narrow (A1_in hA hz9)) hP hS (A1_in hA hz9) rfl hl.1 rfl (Nat.le_of_ble_eq_true rfl) dL_history_4 ⟨by decide, by decide⟩ (fun ce q9 H locs hP hS hz1 hk1 h1 h2 h3 => ?_)
  have hO : va_P g.1 vwCl (oC g o f) H := hO.kept (fun k q hq => by (have hj := (List.getElem?_eq_some_iff.mp hq).1); (obtain rfl : k = 0 := by simp at *; omega); cases hq; exact hk1 o (hO 0 _ rfl).lt ho9)
  refine vx_catch (own := RL) (name := eIA) hown [] ⟨0, 9, 12, 13⟩ [] (by rw [htab]; rfl) (fun z hz => absurd hz List.not_mem_nil) (by decide) (by decide) (hts (.classLink RL 13 eIA) (by decide +kernel)) (va_Nw.use rfl (hT.2.2.2 (.castable eIA eIA) (by decide +kernel))) h1 h2 h3 ?_
  refine lv_astore_n (lv' := [(3, .ref q9), (0, .ref (a 0)), (1, .int x), (2, .ref o)]) hx hb dL_history_12 rfl hl (by decide) rfl (fun ls hl => ?_)
  refine k_ic (x := 1) hx hb dL_history_13 (by decide) ?_
  exact k_iretW hx hb hr hlk rfl hP hO hS dL_history_14
set_option maxHeartbeats 4000000 in
set_option maxRecDepth 100000 in
theorem w_sent (l : Launch) {g : GG} {sa : Nat → Nat} {a : Nat → Nat} {n : Nat} {A : Nat → Prop} (hA : Ap A a (5 + 7 * n)) {s s2 : CS} {o sz : Nat} {f : Nat → Int64} (hAo : A o) (ho : ∀ k, k < 5 + 7 * n → a k ≠ o) (hz9 : ∀ q, sz ≤ q → A q) {x : Int32} {r : Int32} (hM : ∀ B : Nat → Prop, Ap B a (5 + 7 * n) → Met l yX3_sent wsX3_sent ({ frames := 1, cells := 0, slots := 0, locals := 21 }) (pC g [.ref (a 0), .int x] (wC g a n s)) (qI g (r) (wC g a n s2) B) 0 0 B) : Met l yL_sent wsL_sent ({ frames := 2, cells := 1, slots := 6, locals := 42 }) (pW g sa A [.ref (a 0), .int x, .ref o] a n s o f sz) (qW g (nI 0) a n s2 o (vp_updL f 0 r.toInt64) A) 1 6 A := by
  refine k_startW (cc := cL_sent) (maxL := 4) (hh := [(0, 9, 12, 13)]) (by decide) rfl (Nat.le_of_ble_eq_true rfl) ?_
  intro pr en s0 m args below meth cd hx hb hml hr hlk hts hown htab hsz hP hO hC hT hN ls hl
  subst hsz
  have hS : va_S A s0.heap s0.heap [] := va_S.rf
  have hfx : CallFix pr m cd cL_sent 4 s0 args wsL_sent RL := ⟨hx, hb, hml, hown, hts⟩
  have hl : lv_has ls 4 [(0, .ref (a 0)), (1, .int x), (2, .ref o)] := hl
  have ho9 : ¬ A1 a n s0.heap.size o := A1_out ho (hO 0 _ rfl).lt
  refine lv_aload_n hx hb dL_sent_0 rfl (lv_at hl 2 rfl) ?_
  refine k_ic (x := 0) hx hb dL_sent_1 (by decide) ?_
  refine lv_aload_n hx hb dL_sent_2 rfl (lv_at hl 0 rfl) ?_
  refine lv_iload_n hx hb dL_sent_3 rfl (lv_at hl 1 rfl) ?_
  refine kV_i (r := r) (w2 := wC g a n s2) (As := [.int x]) (b := a 0) (rest := [.int (nI 0), .ref o]) (A1 := A1 a n s0.heap.size) hfx (hM _ (A1_ap hA)) (cwV 1 hts gL_sent_X3_sent rfl rfl rfl (by decide +kernel) ⟨by decide, by decide⟩) (va_recv hC.1 hP (ci := 3) rfl wC_obj) hC hP hS (A1_in hA hz9) rfl hl.1 rfl (Nat.le_of_ble_eq_true rfl) dL_sent_4 ⟨Nat.le_of_ble_eq_true rfl, Nat.le_of_ble_eq_true rfl⟩ (fun H locs hP hS hz1 hk1 => ?_)
  have hO : va_P g.1 vwCl (oC g o f) H := hO.kept (fun k q hq => by (have hj := (List.getElem?_eq_some_iff.mp hq).1); (obtain rfl : k = 0 := by simp at *; omega); cases hq; exact hk1 o (hO 0 _ rfl).lt ho9)
  have hPO := va_P.app hP hO
  refine lv_i2l (v := r.toInt64) hx hb dL_sent_7 rfl ?_
  refine va_last hx hb hC.1 hPO (wO_D hA hAo ho) hS _ 3 wO_get rfl (vp_in_nI (n := 0) (by decide) (by decide)) dL_sent_8 (fun H locs hPO _ hS => ?_)
  have hPO := P_eq wO_set hPO
  refine lv_goto (tgt := 15) hx hb dL_sent_9 (by decide) ?_
  refine k_ic (x := 0) hx hb dL_sent_15 (by decide) ?_
  refine W.widen (k := 1) (n := 6) (by decide) (by decide) ?_
  exact k_iretW hx hb hr hlk rfl (wO_l hPO) (by have q := sub_app hPO; rw [nI_clamp (by decide)] at q; exact q) hS dL_sent_16
set_option maxHeartbeats 4000000 in
set_option maxRecDepth 100000 in
theorem w_sent_ia (l : Launch) {g : GG} {sa : Nat → Nat} {a : Nat → Nat} {n : Nat} {A : Nat → Prop} (hA : Ap A a (5 + 7 * n)) {s s2 : CS} {o sz : Nat} {f : Nat → Int64} (hAo : A o) (ho : ∀ k, k < 5 + 7 * n → a k ≠ o) (hz9 : ∀ q, sz ≤ q → A q) {x : Int32} (hM : ∀ B : Nat → Prop, Ap B a (5 + 7 * n) → vx_Met l yX3_sent wsX3_sent ({ frames := 6, cells := 1, slots := 6, locals := 82 }) (pT g sa B [.ref (a 0), .int x] (wC g a n s)) (qF B) (xC g eIA (wC g a n s) B) 1 6 B) : Met l yL_sent wsL_sent ({ frames := 7, cells := 1, slots := 6, locals := 103 }) (pW g sa A [.ref (a 0), .int x, .ref o] a n s o f sz) (qW g (nI 1) a n s o f A) 1 6 A := by
  refine k_startW (cc := cL_sent) (maxL := 4) (hh := [(0, 9, 12, 13)]) (by decide) rfl (Nat.le_of_ble_eq_true rfl) ?_
  intro pr en s0 m args below meth cd hx hb hml hr hlk hts hown htab hsz hP hO hC hT hN ls hl
  subst hsz
  have hS : va_S A s0.heap s0.heap [] := va_S.rf
  have hfx : CallFix pr m cd cL_sent 4 s0 args wsL_sent RL := ⟨hx, hb, hml, hown, hts⟩
  have hl : lv_has ls 4 [(0, .ref (a 0)), (1, .int x), (2, .ref o)] := hl
  have ho9 : ¬ A1 a n s0.heap.size o := A1_out ho (hO 0 _ rfl).lt
  refine lv_aload_n hx hb dL_sent_0 rfl (lv_at hl 2 rfl) ?_
  refine k_ic (x := 0) hx hb dL_sent_1 (by decide) ?_
  refine lv_aload_n hx hb dL_sent_2 rfl (lv_at hl 0 rfl) ?_
  refine lv_iload_n hx hb dL_sent_3 rfl (lv_at hl 1 rfl) ?_
  refine kX_i (As := [.int x]) (b := a 0) (rest := [.int (nI 0), .ref o]) (B1 := A1 a n s0.heap.size) hfx (hM _ (A1_ap hA)) (cwV 1 hts gL_sent_X3_sent rfl rfl rfl (by decide +kernel) ⟨by decide, by decide⟩) (va_recv hC.1 hP (ci := 3) rfl wC_obj) hC (hT.narrow (A1_in hA hz9)) hP hS (A1_in hA hz9) rfl hl.1 rfl (Nat.le_of_ble_eq_true rfl) dL_sent_4 ⟨by decide, by decide⟩ (fun ce q9 H locs hP hS hz1 hk1 h1 h2 h3 => ?_)
  have hO : va_P g.1 vwCl (oC g o f) H := hO.kept (fun k q hq => by (have hj := (List.getElem?_eq_some_iff.mp hq).1); (obtain rfl : k = 0 := by simp at *; omega); cases hq; exact hk1 o (hO 0 _ rfl).lt ho9)
  refine vx_catch (own := RL) (name := eIA) hown [] ⟨0, 9, 12, 13⟩ [] (by rw [htab]; rfl) (fun z hz => absurd hz List.not_mem_nil) (by decide) (by decide) (hts (.classLink RL 13 eIA) (by decide +kernel)) (va_Nw.use rfl (hT.2.2.2 (.castable eIA eIA) (by decide +kernel))) h1 h2 h3 ?_
  refine lv_astore_n (lv' := [(3, .ref q9), (0, .ref (a 0)), (1, .int x), (2, .ref o)]) hx hb dL_sent_12 rfl hl (by decide) rfl (fun ls hl => ?_)
  refine k_ic (x := 1) hx hb dL_sent_13 (by decide) ?_
  exact k_iretW hx hb hr hlk rfl hP hO hS dL_sent_14
set_option maxHeartbeats 4000000 in
set_option maxRecDepth 100000 in
theorem w_waiting (l : Launch) {g : GG} {sa : Nat → Nat} {a : Nat → Nat} {n : Nat} {A : Nat → Prop} (hA : Ap A a (5 + 7 * n)) {s s2 : CS} {o sz : Nat} {f : Nat → Int64} (hAo : A o) (ho : ∀ k, k < 5 + 7 * n → a k ≠ o) (hz9 : ∀ q, sz ≤ q → A q) {x : Int32} {r : Int32} (hM : ∀ B : Nat → Prop, Ap B a (5 + 7 * n) → Met l yX3_waiting wsX3_waiting ({ frames := 2, cells := 0, slots := 0, locals := 43 }) (pC g [.ref (a 0), .int x] (wC g a n s)) (qI g (r) (wC g a n s2) B) 0 0 B) : Met l yL_waiting wsL_waiting ({ frames := 3, cells := 1, slots := 6, locals := 65 }) (pW g sa A [.ref (a 0), .int x, .ref o] a n s o f sz) (qW g (nI 0) a n s2 o (vp_updL f 0 r.toInt64) A) 1 6 A := by
  refine k_startW (cc := cL_waiting) (maxL := 4) (hh := [(0, 9, 12, 13)]) (by decide) rfl (Nat.le_of_ble_eq_true rfl) ?_
  intro pr en s0 m args below meth cd hx hb hml hr hlk hts hown htab hsz hP hO hC hT hN ls hl
  subst hsz
  have hS : va_S A s0.heap s0.heap [] := va_S.rf
  have hfx : CallFix pr m cd cL_waiting 4 s0 args wsL_waiting RL := ⟨hx, hb, hml, hown, hts⟩
  have hl : lv_has ls 4 [(0, .ref (a 0)), (1, .int x), (2, .ref o)] := hl
  have ho9 : ¬ A1 a n s0.heap.size o := A1_out ho (hO 0 _ rfl).lt
  refine lv_aload_n hx hb dL_waiting_0 rfl (lv_at hl 2 rfl) ?_
  refine k_ic (x := 0) hx hb dL_waiting_1 (by decide) ?_
  refine lv_aload_n hx hb dL_waiting_2 rfl (lv_at hl 0 rfl) ?_
  refine lv_iload_n hx hb dL_waiting_3 rfl (lv_at hl 1 rfl) ?_
  refine kV_i (r := r) (w2 := wC g a n s2) (As := [.int x]) (b := a 0) (rest := [.int (nI 0), .ref o]) (A1 := A1 a n s0.heap.size) hfx (hM _ (A1_ap hA)) (cwV 1 hts gL_waiting_X3_waiting rfl rfl rfl (by decide +kernel) ⟨by decide, by decide⟩) (va_recv hC.1 hP (ci := 3) rfl wC_obj) hC hP hS (A1_in hA hz9) rfl hl.1 rfl (Nat.le_of_ble_eq_true rfl) dL_waiting_4 ⟨Nat.le_of_ble_eq_true rfl, Nat.le_of_ble_eq_true rfl⟩ (fun H locs hP hS hz1 hk1 => ?_)
  have hO : va_P g.1 vwCl (oC g o f) H := hO.kept (fun k q hq => by (have hj := (List.getElem?_eq_some_iff.mp hq).1); (obtain rfl : k = 0 := by simp at *; omega); cases hq; exact hk1 o (hO 0 _ rfl).lt ho9)
  have hPO := va_P.app hP hO
  refine lv_i2l (v := r.toInt64) hx hb dL_waiting_7 rfl ?_
  refine va_last hx hb hC.1 hPO (wO_D hA hAo ho) hS _ 3 wO_get rfl (vp_in_nI (n := 0) (by decide) (by decide)) dL_waiting_8 (fun H locs hPO _ hS => ?_)
  have hPO := P_eq wO_set hPO
  refine lv_goto (tgt := 15) hx hb dL_waiting_9 (by decide) ?_
  refine k_ic (x := 0) hx hb dL_waiting_15 (by decide) ?_
  refine W.widen (k := 1) (n := 6) (by decide) (by decide) ?_
  exact k_iretW hx hb hr hlk rfl (wO_l hPO) (by have q := sub_app hPO; rw [nI_clamp (by decide)] at q; exact q) hS dL_waiting_16
set_option maxHeartbeats 4000000 in
set_option maxRecDepth 100000 in
theorem w_waiting_ia (l : Launch) {g : GG} {sa : Nat → Nat} {a : Nat → Nat} {n : Nat} {A : Nat → Prop} (hA : Ap A a (5 + 7 * n)) {s s2 : CS} {o sz : Nat} {f : Nat → Int64} (hAo : A o) (ho : ∀ k, k < 5 + 7 * n → a k ≠ o) (hz9 : ∀ q, sz ≤ q → A q) {x : Int32} (hM : ∀ B : Nat → Prop, Ap B a (5 + 7 * n) → vx_Met l yX3_waiting wsX3_waiting ({ frames := 6, cells := 1, slots := 6, locals := 82 }) (pT g sa B [.ref (a 0), .int x] (wC g a n s)) (qF B) (xC g eIA (wC g a n s) B) 1 6 B) : Met l yL_waiting wsL_waiting ({ frames := 7, cells := 1, slots := 6, locals := 104 }) (pW g sa A [.ref (a 0), .int x, .ref o] a n s o f sz) (qW g (nI 1) a n s o f A) 1 6 A := by
  refine k_startW (cc := cL_waiting) (maxL := 4) (hh := [(0, 9, 12, 13)]) (by decide) rfl (Nat.le_of_ble_eq_true rfl) ?_
  intro pr en s0 m args below meth cd hx hb hml hr hlk hts hown htab hsz hP hO hC hT hN ls hl
  subst hsz
  have hS : va_S A s0.heap s0.heap [] := va_S.rf
  have hfx : CallFix pr m cd cL_waiting 4 s0 args wsL_waiting RL := ⟨hx, hb, hml, hown, hts⟩
  have hl : lv_has ls 4 [(0, .ref (a 0)), (1, .int x), (2, .ref o)] := hl
  have ho9 : ¬ A1 a n s0.heap.size o := A1_out ho (hO 0 _ rfl).lt
  refine lv_aload_n hx hb dL_waiting_0 rfl (lv_at hl 2 rfl) ?_
  refine k_ic (x := 0) hx hb dL_waiting_1 (by decide) ?_
  refine lv_aload_n hx hb dL_waiting_2 rfl (lv_at hl 0 rfl) ?_
  refine lv_iload_n hx hb dL_waiting_3 rfl (lv_at hl 1 rfl) ?_
  refine kX_i (As := [.int x]) (b := a 0) (rest := [.int (nI 0), .ref o]) (B1 := A1 a n s0.heap.size) hfx (hM _ (A1_ap hA)) (cwV 1 hts gL_waiting_X3_waiting rfl rfl rfl (by decide +kernel) ⟨by decide, by decide⟩) (va_recv hC.1 hP (ci := 3) rfl wC_obj) hC (hT.narrow (A1_in hA hz9)) hP hS (A1_in hA hz9) rfl hl.1 rfl (Nat.le_of_ble_eq_true rfl) dL_waiting_4 ⟨by decide, by decide⟩ (fun ce q9 H locs hP hS hz1 hk1 h1 h2 h3 => ?_)
  have hO : va_P g.1 vwCl (oC g o f) H := hO.kept (fun k q hq => by (have hj := (List.getElem?_eq_some_iff.mp hq).1); (obtain rfl : k = 0 := by simp at *; omega); cases hq; exact hk1 o (hO 0 _ rfl).lt ho9)
  refine vx_catch (own := RL) (name := eIA) hown [] ⟨0, 9, 12, 13⟩ [] (by rw [htab]; rfl) (fun z hz => absurd hz List.not_mem_nil) (by decide) (by decide) (hts (.classLink RL 13 eIA) (by decide +kernel)) (va_Nw.use rfl (hT.2.2.2 (.castable eIA eIA) (by decide +kernel))) h1 h2 h3 ?_
  refine lv_astore_n (lv' := [(3, .ref q9), (0, .ref (a 0)), (1, .int x), (2, .ref o)]) hx hb dL_waiting_12 rfl hl (by decide) rfl (fun ls hl => ?_)
  refine k_ic (x := 1) hx hb dL_waiting_13 (by decide) ?_
  exact k_iretW hx hb hr hlk rfl hP hO hS dL_waiting_14
