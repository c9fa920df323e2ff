/-! CONSTRUCTORS -/
abbrev pI (g : GG) (av : List Value) (w : va_W) (sz : Nat) : Array Value → State → Prop := va_Pc av (fun U => U.heap.size = sz ∧ va_P g.1 vwCl w U.heap ∧ Cx g U)
theorem pI_blind {g : GG} {av : List Value} {w : va_W} {sz : Nat} : FrameBlind (pI g av w sz) := fun a U g' mk q => ⟨q.1, q.2.1, q.2.2.1, q.2.2.2.same rfl⟩
abbrev qN {S : Type} (g : GG) (w : S → va_W) (A : Nat → Prop) := va_Qv (S := S) (fun _ => True) (fun u t => va_P g.1 vwCl (w u) t.heap ∧ va_D A (w u)) A
section KN
variable {p : Program} {l : Launch} {e : Env} {R : Room} {s : State} {m : MethodId} {args : Array Value} {below : List Frame} {meth : Method} {c : Code} {H : Heap} {locs : List Loc} {cells slots : Nat} {Q : State → Prop}
variable {cc : ByteArray} {pc : Nat} {rest : List Value} {ls : Array Slot} {g : GG} {A : Nat → Prop} {w : va_W} {H0 : Heap}
theorem k_startI {y : MethodName} {ws ws' : List Cond} {rm : Room} {av : List Value} {w : va_W} {sz : Nat} {Qc : Array Value → State → Outcome → State → Prop} {mc ms : Nat} {free : Addr → Prop} {cc : ByteArray} {maxL : Nat}
    (hy : plainName y.cls = true) (hw : ws = Cond.code y cc maxL none :: ws') (hn : (lg_sl av).length ≤ maxL)
    (body : ∀ (p : Program) (e : Env) (s : State) (m : MethodId) (args : Array Value) (below : List Frame) (meth : Method) (c : Code), p.tables.exec = Jvm.exec → c.code = cc → c.maxLocals = maxL → meth.sig.returnType = none → meth.locks = false → (∀ w ∈ ws, w.before args s = true) → s.vm.findClass y.cls = some m.cls → meth.name = y.name → Cx g s → s.heap.size = sz → va_P g.1 vwCl w s.heap → ∀ ls : Array Slot, lv_has ls maxL (lv_args 0 av) →
      W p l e rm s m args below meth c s.heap [] 0 0 (MQ below Qc args s mc ms free) (F0 m 0 ls [])) : Met l y ws rm (pI g av w sz) Qc mc ms free := by
  refine Met.ofW (cc := cc) (maxL := maxL) (ret := none) hy hw ?_
  intro p e s m args below meth c s₁ B hml hv
  obtain ⟨rfl, hz, hP, hC⟩ := hv
  rw [lg_entry_eq]
  exact body p e s m _ below meth c B.exec B.bytes hml B.returns B.notSynchronized (atoms_spec (ws := ws) B.pre) (findClass_of_methodNamed B.named) (name_of_methodNamed B.named B.method).1 hC hz hP _ (lv_entry av hn)
theorem k_newI (hexec : p.tables.exec = Jvm.exec) (hb : c.code = cc) (harr : (Cond.arrayClass .int).before args s = true) (hC : Cx g s) (hP : va_P g.1 vwCl w H) (hD : va_D A w) (hS : va_S A H0 H locs) (hA : ∀ q, H0.size ≤ q → A q) {N : Nat} (hN : N < 1000) (hcells : cells + 1 ≤ R.cells) (hslots : slots + N ≤ R.slots) (hdg : decode cc pc = .ok (.newarray .int, 2))
    (kk : ∀ (q : Nat) (H1 : Heap), va_P g.1 vwCl (w ++ [(q, .inl (gI g, N, .inl (fun _ => nI 0)))]) H1 → va_D A (w ++ [(q, .inl (gI g, N, .inl (fun _ => nI 0)))]) → va_S A H0 H1 locs → W p l e R s m args below meth c H1 locs (cells + 1) (slots + N) Q (F0 m (pc + 2) ls (.ref q :: rest))) : W p l e R s m args below meth c H locs cells slots Q (F0 m pc ls (.int (nI N) :: rest)) := by
  refine va_newa (atype := .int) (ty := .int) (a0 := (N, .inl (fun _ => nI 0))) hexec hb harr rfl hC.1 hP hD hS hA (fun cA => vp_cell_i cA N _) (nI_pos (by omega)) (nI_clamp (by omega)) (by show N * 4 ≤ _; omega) hcells hslots hdg (fun q cA H1 hK1 hP1 hD1 hS1 => ?_)
  have e1 : s.vm.findClass ("[" ++ FieldType.int.toString) = some cA := (hK1.2 4 (cA, .int) rfl).2
  have e2 : s.vm.findClass ("[" ++ FieldType.int.toString) = some (gI g) := (hC.1.2 0 (gI g, .int) rfl).2
  cases Option.some.inj (e1.symm.trans e2)
  exact kk q H1 hP1 hD1 hS1
theorem k_newZ (hexec : p.tables.exec = Jvm.exec) (hb : c.code = cc) (harr : (Cond.arrayClass .boolean).before args s = true) (hC : Cx g s) (hP : va_P g.1 vwCl w H) (hD : va_D A w) (hS : va_S A H0 H locs) (hA : ∀ q, H0.size ≤ q → A q) {N : Nat} (hN : N < 1000) (hcells : cells + 1 ≤ R.cells) (hslots : slots + N ≤ R.slots) (hdg : decode cc pc = .ok (.newarray .boolean, 2))
    (kk : ∀ (q : Nat) (H1 : Heap), va_P g.1 vwCl (w ++ [(q, .inl (gZ g, N, .inl (fun _ => nI 0)))]) H1 → va_D A (w ++ [(q, .inl (gZ g, N, .inl (fun _ => nI 0)))]) → va_S A H0 H1 locs → W p l e R s m args below meth c H1 locs (cells + 1) (slots + N) Q (F0 m (pc + 2) ls (.ref q :: rest))) : W p l e R s m args below meth c H locs cells slots Q (F0 m pc ls (.int (nI N) :: rest)) := by
  refine va_newa (atype := .boolean) (ty := .boolean) (a0 := (N, .inl (fun _ => nI 0))) hexec hb harr rfl hC.1 hP hD hS hA (fun cA => vp_cell_i cA N _) (nI_pos (by omega)) (nI_clamp (by omega)) (by show N * 1 ≤ _; omega) hcells hslots hdg (fun q cA H1 hK1 hP1 hD1 hS1 => ?_)
  have e1 : s.vm.findClass ("[" ++ FieldType.boolean.toString) = some cA := (hK1.2 4 (cA, .boolean) rfl).2
  have e2 : s.vm.findClass ("[" ++ FieldType.boolean.toString) = some (gZ g) := (hC.1.2 1 (gZ g, .boolean) rfl).2
  cases Option.some.inj (e1.symm.trans e2)
  exact kk q H1 hP1 hD1 hS1
theorem k_vretN {S : Type} {w : S → va_W} (u : S) (hexec : p.tables.exec = Jvm.exec) (hb : c.code = cc) (hr : meth.sig.returnType = none) (hlk : meth.locks = false) (hP : va_P g.1 vwCl (w u) H) (hD : va_D A (w u)) (hS : va_S A s.heap H locs) (hdg : decode cc pc = .ok (.return_, 1)) : W p l e R s m args below meth c H locs cells slots (MQ below (qN g w A) args s cells slots A) (F0 m pc ls []) :=
  W.vret hexec hb hr (fun t ht hW => ⟨⟨u, rfl, trivial, by rw [ht]; exact hP, hD⟩, hS.F ht⟩) hS.2.2 hdg hlk
end KN
/-- behind a call on the last cells of the world: what stood ahead stays -/
theorem join_app {A : Nat → Prop} {D : va_G} {cl : List vw_C} {wr wc w1 : va_W} {H H1 : Heap} (hP : va_P D cl (wr ++ wc) H) (hD : va_D A (wr ++ wc)) (hk : ∀ q : Nat, q < H.size → ¬ va_A wc H.size q → H1[q]? = H[q]?) (hF : ∀ q, va_A wc H.size q → A q) (hP1 : va_P D cl w1 H1) (hD1 : va_D (va_A wc H.size) w1) : va_P D cl (wr ++ w1) H1 ∧ va_D A (wr ++ w1) := by
  have inl : ∀ (k : Nat) (q : Nat × va_E), wr[k]? = some q → (wr ++ wc)[k]? = some q := fun k q h => by
    rw [List.getElem?_append_left (List.getElem?_eq_some_iff.mp h).1]; exact h
  have inr : ∀ (k : Nat) (q : Nat × va_E), wc[k]? = some q → (wr ++ wc)[wr.length + k]? = some q := fun k q h => by
    rw [List.getElem?_append_right (by omega), Nat.add_sub_cancel_left]; exact h
  have apart : ∀ (k : Nat) (q : Nat × va_E), wr[k]? = some q → q.1 < H.size ∧ ¬ va_A wc H.size q.1 := by
    intro k q hq
    have hl := (hP k q (inl k q hq)).lt
    refine ⟨hl, fun h => ?_⟩
    rcases h with ⟨k2, e, h⟩ | h
    · have h3 := hD.1 k (wr.length + k2) q (q.1, e) (inl k q hq) (inr k2 _ h) rfl
      have h4 := (List.getElem?_eq_some_iff.mp hq).1
      omega
    · omega
  refine ⟨va_P.app (fun k q hq => ?_) hP1, va_D.app ⟨fun i j x y hi hj hxy => hD.1 i j x y (inl i x hi) (inl j y hj) hxy, fun k q hk => hD.2 k q (inl k q hk)⟩ (hD1.weaken (fun k q _ h => hF q.1 h)) (fun i j x y hx hy hxy => ?_)⟩
  · obtain ⟨g1, g2⟩ := apart k q hq
    exact (hP k q (inl k q hq)).kept (hk q.1 g1 g2)
  · exact (apart i x hx).2 (by rw [hxy]; exact hD1.2 j y hy)
theorem sub_app {D : va_G} {cl : List vw_C} {wr wc : va_W} {H : Heap} (hP : va_P D cl (wr ++ wc) H) : va_P D cl wc H := fun k q h => hP (wr.length + k) q (by rw [List.getElem?_append_right (by omega), Nat.add_sub_cancel_left]; exact h)
theorem free_app {A : Nat → Prop} {wr wc : va_W} {H0 H : Heap} {locs : List Loc} (hD : va_D A (wr ++ wc)) (hS : va_S A H0 H locs) (hA : ∀ q, H0.size ≤ q → A q) : ∀ q, va_A wc H.size q → A q := by
  intro q h
  rcases h with ⟨k, e, h⟩ | h
  · exact hD.2 (wr.length + k) (q, e) (by rw [List.getElem?_append_right (by omega), Nat.add_sub_cancel_left]; exact h)
  · exact hA q (Nat.le_trans hS.1 h)
section KM
variable {p : Program} {l : Launch} {e : Env} {R : Room} {s : State} {m : MethodId} {args : Array Value} {below : List Frame} {meth : Method} {c : Code} {H : Heap} {locs : List Loc} {cells slots : Nat} {Q : State → Prop}
variable {y : MethodName} {bytes cc : ByteArray} {maxL nL mc ms n index pc : Nat} {ws : List Cond} {rm : Room} {Ts : List Cond} {own host : String} {b : Addr} {As rest st0 : List Value} {ls : Array Slot} {g : GG} {A : Nat → Prop} {wr wc : va_W} {H0 : Heap}
/-- a constructor of a nest mate, called on the world's last cells -/
theorem kI_N {S : Type} {w1 : S → va_W} (F : CallFix p m c cc nL s args Ts own) (hM : Met l y ws rm (pI g (.ref b :: As) wc H.size) (qN g w1 (va_A wc H.size)) mc ms (va_A wc H.size)) (cw : va_CN R s args own index y host bytes maxL none ws rm mc ms n ∧ y.name = "<init>" ∧ (Cond.instanceMethod y).before args s = true) (hC : Cx g s) (hP : va_P g.1 vwCl (wr ++ wc) H) (hD : va_D A (wr ++ wc)) (hS : va_S A H0 H locs) (hA : ∀ q, H0.size ≤ q → A q)
    (hn : As.length = n) (hz : ls.size = nL) (hst : st0 = As.reverse ++ .ref b :: rest) (hW : (rest.map fun v => v.category).sum ≤ 8) (hdg : decode cc pc = .ok (.invokespecial index, 3)) (hf : cells + mc ≤ R.cells ∧ slots + ms ≤ R.slots)
    (kk : ∀ (u : S) (H1 : Heap) (locs1 : List Loc), va_P g.1 vwCl (wr ++ w1 u) H1 → va_D A (wr ++ w1 u) → va_S A H0 H1 locs1 → W p l e R s m args below meth c H1 locs1 (cells + mc) (slots + ms) Q (F0 m (pc + 3) ls rest)) : W p l e R s m args below meth c H locs cells slots Q (F0 m pc ls st0) := by
  have hFc := free_app hD hS hA
  refine va_callv (va_runIN (As := As) (rest := rest) F hM cw ⟨pI_blind, fun U hU hW => ⟨rfl, by rw [hU], by rw [hU]; exact sub_app hP, hC.moved hW⟩⟩ rfl hn hz hst (lv_room (rest := st0) hW) hdg hf) hS (fun q _ h => hFc q h) hFc (fun u t H1 locs1 ht hvm hx hB hz1 hk1 hS1 => ?_)
  subst ht
  obtain ⟨hP2, hD2⟩ := join_app hP hD hk1 hFc hB.1 hB.2
  exact kk u _ _ hP2 hD2 hS1
theorem kI_P {S : Type} {w1 : S → va_W} (F : CallFix p m c cc nL s args Ts own) (hM : Met l y ws rm (pI g (.ref b :: As) wc H.size) (qN g w1 (va_A wc H.size)) mc ms (va_A wc H.size)) (cw : CallB R s args own index y bytes maxL none ws rm mc ms n ∧ y.name = "<init>" ∧ (Cond.instanceMethod y).before args s = true) (hC : Cx g s) (hP : va_P g.1 vwCl (wr ++ wc) H) (hD : va_D A (wr ++ wc)) (hS : va_S A H0 H locs) (hA : ∀ q, H0.size ≤ q → A q)
    (hn : As.length = n) (hz : ls.size = nL) (hst : st0 = As.reverse ++ .ref b :: rest) (hW : (rest.map fun v => v.category).sum ≤ 8) (hdg : decode cc pc = .ok (.invokespecial index, 3)) (hf : cells + mc ≤ R.cells ∧ slots + ms ≤ R.slots)
    (kk : ∀ (u : S) (H1 : Heap) (locs1 : List Loc), va_P g.1 vwCl (wr ++ w1 u) H1 → va_D A (wr ++ w1 u) → va_S A H0 H1 locs1 → H.size ≤ H1.size → (∀ q : Nat, q < H.size → ¬ va_A wc H.size q → H1[q]? = H[q]?) → W p l e R s m args below meth c H1 locs1 (cells + mc) (slots + ms) Q (F0 m (pc + 3) ls rest)) : W p l e R s m args below meth c H locs cells slots Q (F0 m pc ls st0) := by
  have hFc := free_app hD hS hA
  refine va_callv (va_runI (As := As) (rest := rest) F hM cw ⟨pI_blind, fun U hU hW => ⟨rfl, by rw [hU], by rw [hU]; exact sub_app hP, hC.moved hW⟩⟩ rfl hn hz hst (lv_room (rest := st0) hW) hdg hf) hS (fun q _ h => hFc q h) hFc (fun u t H1 locs1 ht hvm hx hB hz1 hk1 hS1 => ?_)
  subst ht
  obtain ⟨hP2, hD2⟩ := join_app hP hD hk1 hFc hB.1 hB.2
  exact kk u _ _ hP2 hD2 hS1 hz1 hk1
end KM
abbrev qC (g : GG) (q r : Nat) : va_W := [(q, .inr (2, [.ref r, .int (nI 0), .int (nI 0)])), (r, .inl (gI g, 40, .inl (fun _ => nI 0)))]
abbrev lC (g : GG) (k q r q2 r2 : Nat) : va_W := [(k, .inr (0, [.ref q, .ref q2, .int (nI 1)])), (q, .inr (2, [.ref r, .int (nI 0), .int (nI 0)])), (r, .inl (gI g, 40, .inl (fun _ => nI 0))), (q2, .inr (2, [.ref r2, .int (nI 0), .int (nI 0)])), (r2, .inl (gI g, 40, .inl (fun _ => nI 0)))]
abbrev nC (g : GG) (d v k q r q2 r2 : Nat) : va_W := [(d, .inr (1, [.ref v, .ref k, .int (nI 0), .int (nI 0), .int (nI 0)])), (v, .inl (gI g, 8, .inl (fun _ => nI 0))), (k, .inr (0, [.ref q, .ref q2, .int (nI 1)])), (q, .inr (2, [.ref r, .int (nI 0), .int (nI 0)])), (r, .inl (gI g, 40, .inl (fun _ => nI 0))), (q2, .inr (2, [.ref r2, .int (nI 0), .int (nI 0)])), (r2, .inl (gI g, 40, .inl (fun _ => nI 0)))]
set_option maxHeartbeats 4000000 in
set_option maxRecDepth 100000 in
/-- Queue() -/
theorem c_X2_init (l : Launch) (g : GG) (b : Nat) (sz : Nat) : Met l yX2_init wsX2_init ({ frames := 1, cells := 1, slots := 40, locals := 12 }) (pI g [.ref b] [(b, .inr (2, [.null, .int (nI 0), .int (nI 0)]))] sz) (qN g (fun r : Nat => qC g b r) (va_A [(b, .inr (2, [.null, .int (nI 0), .int (nI 0)]))] sz)) 1 40 (va_A [(b, .inr (2, [.null, .int (nI 0), .int (nI 0)]))] sz) := by
  refine k_startI (cc := cX2_init) (maxL := 1) (by decide) rfl (Nat.le_of_ble_eq_true rfl) ?_
  intro pr en s0 m args below meth cd hx hb hml hr hlk hts hown hin hC hz hP ls hl
  subst hz
  have hD : va_D (va_A [(b, .inr (2, [.null, .int (nI 0), .int (nI 0)]))] s0.heap.size) [(b, .inr (2, [.null, .int (nI 0), .int (nI 0)]))] := ⟨fun i j p q h1 h2 _ => by (have := (List.getElem?_eq_some_iff.mp h1).1); (have := (List.getElem?_eq_some_iff.mp h2).1); simp at *; omega, fun _ _ hk => va_A.in hk⟩
  generalize hAe : va_A [(b, .inr (2, [.null, .int (nI 0), .int (nI 0)]))] s0.heap.size = A at hD ⊢
  have hA : ∀ q : Nat, s0.heap.size ≤ q → A q := fun q h => by rw [← hAe]; exact Or.inr h
  have hS : va_S A s0.heap s0.heap [] := va_S.rf
  have hfx : CallFix pr m cd cX2_init 1 s0 args wsX2_init RX2 := ⟨hx, hb, hml, hown, hts⟩
  have hu : ∀ w ∈ wsX20, w.before args s0 = true := fun w h => hts w ((by decide +kernel : ∀ w ∈ wsX20, w ∈ wsX2_init) w h)
  have hl : lv_has ls 1 [(0, .ref b)] := hl
  refine lv_aload_n hx hb dX2_init_0 rfl (lv_at hl 0 rfl) ?_
  refine W.objInit hx hb hown (hts (.methodLink RX2 3 objectInit) (by decide +kernel)) (hts (.instanceMethod objectInit) (by decide +kernel)) (hts (.code objectInit ⟨#[0xb1]⟩ 1 none) (by decide +kernel)) rfl (by rw [hml]; exact hl.1) rfl dX2_init_1 (by decide) (Nat.le_of_ble_eq_true rfl) ?_
  refine W.eq (g2 := F0 m 4 ls []) rfl ?_
  refine lv_aload_n hx hb dX2_init_4 rfl (lv_at hl 0 rfl) ?_
  refine k_bi (x := 40) hx hb dX2_init_5 (by decide) ?_
  refine k_newI hx hb (hts (.arrayClass .int) (by decide +kernel)) hC hP hD hS hA (by decide) (by decide) (by decide) dX2_init_7 (fun r H hP hD hS => ?_)
  have hP : va_P g.1 vwCl [(b, .inr (2, [.null, .int (nI 0), .int (nI 0)])), (r, .inl (gI g, 40, .inl (fun _ => nI 0)))] H := hP
  have hD : va_D A [(b, .inr (2, [.null, .int (nI 0), .int (nI 0)])), (r, .inl (gI g, 40, .inl (fun _ => nI 0)))] := hD
  refine va_putF (D := g.1) (ci := 2) (v := .ref r) (ty := .array .int) (C := RX2) (T := TX2) (N := 3) hx hb hu (fun _ h => h) tyX2 tyX2_ok nmX2 hown hC.1 hP hD hS 0 rfl rfl 0 (by decide) (hts (.fieldLink RX2 9 "SplicedChain$Queue" "numbers" "[I") (by decide +kernel)) (fun _ h9 => h9) rfl hin rfl (by decide +kernel) rfl rfl (Nat.le_of_ble_eq_true rfl) dX2_init_9 (fun H locs hP hD hS => ?_)
  have hP : va_P g.1 vwCl [(b, .inr (2, [.ref r, .int (nI 0), .int (nI 0)])), (r, .inl (gI g, 40, .inl (fun _ => nI 0)))] H := hP
  have hD : va_D A [(b, .inr (2, [.ref r, .int (nI 0), .int (nI 0)])), (r, .inl (gI g, 40, .inl (fun _ => nI 0)))] := hD
  refine lv_aload_n hx hb dX2_init_12 rfl (lv_at hl 0 rfl) ?_
  refine k_ic (x := 0) hx hb dX2_init_13 (by decide) ?_
  refine va_put (D := g.1) (ci := 2) (v := .int (nI 0)) (ty := .int) (C := RX2) (T := TX2) (N := 3) hx hb hu (fun _ h => h) tyX2 tyX2_ok nmX2 hown hC.1 hP hD hS 0 rfl rfl 1 (by decide) (hts (.fieldLink RX2 15 "SplicedChain$Queue" "first" "I") (by decide +kernel)) (fun _ h9 => h9) rfl (by decide +kernel) rfl rfl (Nat.le_of_ble_eq_true rfl) dX2_init_14 (fun H locs hP hD hS => ?_)
  have hP : va_P g.1 vwCl [(b, .inr (2, [.ref r, .int (nI 0), .int (nI 0)])), (r, .inl (gI g, 40, .inl (fun _ => nI 0)))] H := hP
  have hD : va_D A [(b, .inr (2, [.ref r, .int (nI 0), .int (nI 0)])), (r, .inl (gI g, 40, .inl (fun _ => nI 0)))] := hD
  refine lv_aload_n hx hb dX2_init_17 rfl (lv_at hl 0 rfl) ?_
  refine k_ic (x := 0) hx hb dX2_init_18 (by decide) ?_
  refine va_put (D := g.1) (ci := 2) (v := .int (nI 0)) (ty := .int) (C := RX2) (T := TX2) (N := 3) hx hb hu (fun _ h => h) tyX2 tyX2_ok nmX2 hown hC.1 hP hD hS 0 rfl rfl 2 (by decide) (hts (.fieldLink RX2 19 "SplicedChain$Queue" "size" "I") (by decide +kernel)) (fun _ h9 => h9) rfl (by decide +kernel) rfl rfl (Nat.le_of_ble_eq_true rfl) dX2_init_19 (fun H locs hP hD hS => ?_)
  have hP : va_P g.1 vwCl [(b, .inr (2, [.ref r, .int (nI 0), .int (nI 0)])), (r, .inl (gI g, 40, .inl (fun _ => nI 0)))] H := hP
  have hD : va_D A [(b, .inr (2, [.ref r, .int (nI 0), .int (nI 0)])), (r, .inl (gI g, 40, .inl (fun _ => nI 0)))] := hD
  exact k_vretN r hx hb hr hlk hP hD hS dX2_init_22
set_option maxHeartbeats 4000000 in
set_option maxRecDepth 100000 in
/-- Link() -/
theorem c_X0_init (l : Launch) (g : GG) (b : Nat) (sz : Nat) : Met l yX0_init wsX0_init ({ frames := 2, cells := 4, slots := 86, locals := 32 }) (pI g [.ref b] [(b, .inr (0, [.null, .null, .int (nI 0)]))] sz) (qN g (fun u : Nat × Nat × Nat × Nat => lC g b u.1 u.2.1 u.2.2.1 u.2.2.2) (va_A [(b, .inr (0, [.null, .null, .int (nI 0)]))] sz)) 4 86 (va_A [(b, .inr (0, [.null, .null, .int (nI 0)]))] sz) := by
  refine k_startI (cc := cX0_init) (maxL := 1) (by decide) rfl (Nat.le_of_ble_eq_true rfl) ?_
  intro pr en s0 m args below meth cd hx hb hml hr hlk hts hown hin hC hz hP ls hl
  subst hz
  have hD : va_D (va_A [(b, .inr (0, [.null, .null, .int (nI 0)]))] s0.heap.size) [(b, .inr (0, [.null, .null, .int (nI 0)]))] := ⟨fun i j p q h1 h2 _ => by (have := (List.getElem?_eq_some_iff.mp h1).1); (have := (List.getElem?_eq_some_iff.mp h2).1); simp at *; omega, fun _ _ hk => va_A.in hk⟩
  generalize hAe : va_A [(b, .inr (0, [.null, .null, .int (nI 0)]))] s0.heap.size = A at hD ⊢
  have hA : ∀ q : Nat, s0.heap.size ≤ q → A q := fun q h => by rw [← hAe]; exact Or.inr h
  have hS : va_S A s0.heap s0.heap [] := va_S.rf
  have hfx : CallFix pr m cd cX0_init 1 s0 args wsX0_init RX0 := ⟨hx, hb, hml, hown, hts⟩
  have hu : ∀ w ∈ wsX00, w.before args s0 = true := fun w h => hts w ((by decide +kernel : ∀ w ∈ wsX00, w ∈ wsX0_init) w h)
  have hl : lv_has ls 1 [(0, .ref b)] := hl
  refine lv_aload_n hx hb dX0_init_0 rfl (lv_at hl 0 rfl) ?_
  refine W.objInit hx hb hown (hts (.methodLink RX0 1 objectInit) (by decide +kernel)) (hts (.instanceMethod objectInit) (by decide +kernel)) (hts (.code objectInit ⟨#[0xb1]⟩ 1 none) (by decide +kernel)) rfl (by rw [hml]; exact hl.1) rfl dX0_init_1 (by decide) (Nat.le_of_ble_eq_true rfl) ?_
  refine W.eq (g2 := F0 m 4 ls []) rfl ?_
  refine lv_aload_n hx hb dX0_init_4 rfl (lv_at hl 0 rfl) ?_
  refine va_new (ci := 2) (fs := [.null, .int (nI 0), .int (nI 0)]) (C := RX2) (T := TX2) (N := 3) hx hb hts (by decide +kernel) tyX2 tyX2_ok hown (hts (.classLink RX0 7 RX2) (by decide +kernel)) (hts (.instantiable RX2 3) (by decide +kernel)) (hts (.initialized RX2) (by decide +kernel)) hC.1 hP hD hS hA rfl (fun j hj => by rcases (show j = 0 ∨ j = 1 ∨ j = 2 by omega) with rfl | rfl | rfl <;> rfl) (by decide) (by decide) dX0_init_5 (fun q H hP hD hS => ?_)
  refine lv_dup hx hb dX0_init_8 rfl ?_
  refine kI_N (wr := [(b, .inr (0, [.null, .null, .int (nI 0)]))]) (As := []) (rest := [.ref q, .ref b]) hfx (c_X2_init l g q H.size) ⟨va_cnB 0 hts gX0_init_X2_init_n9 rfl rfl rfl (hC.2.2.1 (RX0, 9, yX2_init) (by decide +kernel)) (hts (.initialized RX2) (by decide +kernel)) (by decide +kernel) ⟨by decide, by decide⟩, rfl, hts (.instanceMethod yX2_init) (by decide +kernel)⟩ hC hP hD hS hA rfl hl.1 rfl (Nat.le_of_ble_eq_true rfl) dX0_init_9 ⟨by decide, by decide⟩ (fun r H locs hP hD hS => ?_)
  have hP : va_P g.1 vwCl [(b, .inr (0, [.null, .null, .int (nI 0)])), (q, .inr (2, [.ref r, .int (nI 0), .int (nI 0)])), (r, .inl (gI g, 40, .inl (fun _ => nI 0)))] H := hP
  have hD : va_D A [(b, .inr (0, [.null, .null, .int (nI 0)])), (q, .inr (2, [.ref r, .int (nI 0), .int (nI 0)])), (r, .inl (gI g, 40, .inl (fun _ => nI 0)))] := hD
  refine va_putF (D := g.1) (ci := 0) (v := .ref q) (ty := .object "SplicedChain$Queue") (C := RX0) (T := TX0) (N := 3) hx hb hu (fun _ h => h) tyX0 tyX0_ok nmX0 hown hC.1 hP hD hS 0 rfl rfl 0 (by decide) (hts (.fieldLink RX0 10 "SplicedChain$Link" "updates" "LSplicedChain$Queue;") (by decide +kernel)) (fun _ h9 => h9) rfl hin rfl (by decide +kernel) rfl rfl (Nat.le_of_ble_eq_true rfl) dX0_init_12 (fun H locs hP hD hS => ?_)
  have hP : va_P g.1 vwCl [(b, .inr (0, [.ref q, .null, .int (nI 0)])), (q, .inr (2, [.ref r, .int (nI 0), .int (nI 0)])), (r, .inl (gI g, 40, .inl (fun _ => nI 0)))] H := hP
  have hD : va_D A [(b, .inr (0, [.ref q, .null, .int (nI 0)])), (q, .inr (2, [.ref r, .int (nI 0), .int (nI 0)])), (r, .inl (gI g, 40, .inl (fun _ => nI 0)))] := hD
  refine lv_aload_n hx hb dX0_init_15 rfl (lv_at hl 0 rfl) ?_
  refine va_new (ci := 2) (fs := [.null, .int (nI 0), .int (nI 0)]) (C := RX2) (T := TX2) (N := 3) hx hb hts (by decide +kernel) tyX2 tyX2_ok hown (hts (.classLink RX0 7 RX2) (by decide +kernel)) (hts (.instantiable RX2 3) (by decide +kernel)) (hts (.initialized RX2) (by decide +kernel)) hC.1 hP hD hS hA rfl (fun j hj => by rcases (show j = 0 ∨ j = 1 ∨ j = 2 by omega) with rfl | rfl | rfl <;> rfl) (by decide) (by decide) dX0_init_16 (fun q2 H hP hD hS => ?_)
  refine lv_dup hx hb dX0_init_19 rfl ?_
  refine kI_N (wr := [(b, .inr (0, [.ref q, .null, .int (nI 0)])), (q, .inr (2, [.ref r, .int (nI 0), .int (nI 0)])), (r, .inl (gI g, 40, .inl (fun _ => nI 0)))]) (As := []) (rest := [.ref q2, .ref b]) hfx (c_X2_init l g q2 H.size) ⟨va_cnB 0 hts gX0_init_X2_init_n9 rfl rfl rfl (hC.2.2.1 (RX0, 9, yX2_init) (by decide +kernel)) (hts (.initialized RX2) (by decide +kernel)) (by decide +kernel) ⟨by decide, by decide⟩, rfl, hts (.instanceMethod yX2_init) (by decide +kernel)⟩ hC hP hD hS hA rfl hl.1 rfl (Nat.le_of_ble_eq_true rfl) dX0_init_20 ⟨by decide, by decide⟩ (fun r2 H locs hP hD hS => ?_)
  have hP : va_P g.1 vwCl [(b, .inr (0, [.ref q, .null, .int (nI 0)])), (q, .inr (2, [.ref r, .int (nI 0), .int (nI 0)])), (r, .inl (gI g, 40, .inl (fun _ => nI 0))), (q2, .inr (2, [.ref r2, .int (nI 0), .int (nI 0)])), (r2, .inl (gI g, 40, .inl (fun _ => nI 0)))] H := hP
  have hD : va_D A [(b, .inr (0, [.ref q, .null, .int (nI 0)])), (q, .inr (2, [.ref r, .int (nI 0), .int (nI 0)])), (r, .inl (gI g, 40, .inl (fun _ => nI 0))), (q2, .inr (2, [.ref r2, .int (nI 0), .int (nI 0)])), (r2, .inl (gI g, 40, .inl (fun _ => nI 0)))] := hD
  refine va_putF (D := g.1) (ci := 0) (v := .ref q2) (ty := .object "SplicedChain$Queue") (C := RX0) (T := TX0) (N := 3) hx hb hu (fun _ h => h) tyX0 tyX0_ok nmX0 hown hC.1 hP hD hS 0 rfl rfl 1 (by decide) (hts (.fieldLink RX0 16 "SplicedChain$Link" "acknowledgements" "LSplicedChain$Queue;") (by decide +kernel)) (fun _ h9 => h9) rfl hin rfl (by decide +kernel) rfl rfl (Nat.le_of_ble_eq_true rfl) dX0_init_23 (fun H locs hP hD hS => ?_)
  have hP : va_P g.1 vwCl [(b, .inr (0, [.ref q, .ref q2, .int (nI 0)])), (q, .inr (2, [.ref r, .int (nI 0), .int (nI 0)])), (r, .inl (gI g, 40, .inl (fun _ => nI 0))), (q2, .inr (2, [.ref r2, .int (nI 0), .int (nI 0)])), (r2, .inl (gI g, 40, .inl (fun _ => nI 0)))] H := hP
  have hD : va_D A [(b, .inr (0, [.ref q, .ref q2, .int (nI 0)])), (q, .inr (2, [.ref r, .int (nI 0), .int (nI 0)])), (r, .inl (gI g, 40, .inl (fun _ => nI 0))), (q2, .inr (2, [.ref r2, .int (nI 0), .int (nI 0)])), (r2, .inl (gI g, 40, .inl (fun _ => nI 0)))] := hD
  refine lv_aload_n hx hb dX0_init_26 rfl (lv_at hl 0 rfl) ?_
  refine k_ic (x := 1) hx hb dX0_init_27 (by decide) ?_
  refine va_put (D := g.1) (ci := 0) (v := .int (nI 1)) (ty := .boolean) (C := RX0) (T := TX0) (N := 3) hx hb hu (fun _ h => h) tyX0 tyX0_ok nmX0 hown hC.1 hP hD hS 0 rfl rfl 2 (by decide) (hts (.fieldLink RX0 19 "SplicedChain$Link" "open" "Z") (by decide +kernel)) (fun _ h9 => h9) rfl (by decide +kernel) rfl rfl (Nat.le_of_ble_eq_true rfl) dX0_init_28 (fun H locs hP hD hS => ?_)
  have hP : va_P g.1 vwCl [(b, .inr (0, [.ref q, .ref q2, .int (nI 1)])), (q, .inr (2, [.ref r, .int (nI 0), .int (nI 0)])), (r, .inl (gI g, 40, .inl (fun _ => nI 0))), (q2, .inr (2, [.ref r2, .int (nI 0), .int (nI 0)])), (r2, .inl (gI g, 40, .inl (fun _ => nI 0)))] H := hP
  have hD : va_D A [(b, .inr (0, [.ref q, .ref q2, .int (nI 1)])), (q, .inr (2, [.ref r, .int (nI 0), .int (nI 0)])), (r, .inl (gI g, 40, .inl (fun _ => nI 0))), (q2, .inr (2, [.ref r2, .int (nI 0), .int (nI 0)])), (r2, .inl (gI g, 40, .inl (fun _ => nI 0)))] := hD
  exact k_vretN (q, r, q2, r2) hx hb hr hlk hP hD hS dX0_init_31
set_option maxHeartbeats 4000000 in
set_option maxRecDepth 100000 in
/-- Node() -/
theorem c_X1_init (l : Launch) (g : GG) (b : Nat) (sz : Nat) : Met l yX1_init wsX1_init ({ frames := 3, cells := 6, slots := 97, locals := 52 }) (pI g [.ref b] [(b, .inr (1, [.null, .null, .int (nI 0), .int (nI 0), .int (nI 0)]))] sz) (qN g (fun u : Nat × Nat × Nat × Nat × Nat × Nat => nC g b u.1 u.2.1 u.2.2.1 u.2.2.2.1 u.2.2.2.2.1 u.2.2.2.2.2) (va_A [(b, .inr (1, [.null, .null, .int (nI 0), .int (nI 0), .int (nI 0)]))] sz)) 6 97 (va_A [(b, .inr (1, [.null, .null, .int (nI 0), .int (nI 0), .int (nI 0)]))] sz) := by
  refine k_startI (cc := cX1_init) (maxL := 1) (by decide) rfl (Nat.le_of_ble_eq_true rfl) ?_
  intro pr en s0 m args below meth cd hx hb hml hr hlk hts hown hin hC hz hP ls hl
  subst hz
  have hD : va_D (va_A [(b, .inr (1, [.null, .null, .int (nI 0), .int (nI 0), .int (nI 0)]))] s0.heap.size) [(b, .inr (1, [.null, .null, .int (nI 0), .int (nI 0), .int (nI 0)]))] := ⟨fun i j p q h1 h2 _ => by (have := (List.getElem?_eq_some_iff.mp h1).1); (have := (List.getElem?_eq_some_iff.mp h2).1); simp at *; omega, fun _ _ hk => va_A.in hk⟩
  generalize hAe : va_A [(b, .inr (1, [.null, .null, .int (nI 0), .int (nI 0), .int (nI 0)]))] s0.heap.size = A at hD ⊢
  have hA : ∀ q : Nat, s0.heap.size ≤ q → A q := fun q h => by rw [← hAe]; exact Or.inr h
  have hS : va_S A s0.heap s0.heap [] := va_S.rf
  have hfx : CallFix pr m cd cX1_init 1 s0 args wsX1_init RX1 := ⟨hx, hb, hml, hown, hts⟩
  have hu : ∀ w ∈ wsX10, w.before args s0 = true := fun w h => hts w ((by decide +kernel : ∀ w ∈ wsX10, w ∈ wsX1_init) w h)
  have hl : lv_has ls 1 [(0, .ref b)] := hl
  refine lv_aload_n hx hb dX1_init_0 rfl (lv_at hl 0 rfl) ?_
  refine W.objInit hx hb hown (hts (.methodLink RX1 3 objectInit) (by decide +kernel)) (hts (.instanceMethod objectInit) (by decide +kernel)) (hts (.code objectInit ⟨#[0xb1]⟩ 1 none) (by decide +kernel)) rfl (by rw [hml]; exact hl.1) rfl dX1_init_1 (by decide) (Nat.le_of_ble_eq_true rfl) ?_
  refine W.eq (g2 := F0 m 4 ls []) rfl ?_
  refine lv_aload_n hx hb dX1_init_4 rfl (lv_at hl 0 rfl) ?_
  refine k_bi (x := 8) hx hb dX1_init_5 (by decide) ?_
  refine k_newI hx hb (hts (.arrayClass .int) (by decide +kernel)) hC hP hD hS hA (by decide) (by decide) (by decide) dX1_init_7 (fun v H hP hD hS => ?_)
  have hP : va_P g.1 vwCl [(b, .inr (1, [.null, .null, .int (nI 0), .int (nI 0), .int (nI 0)])), (v, .inl (gI g, 8, .inl (fun _ => nI 0)))] H := hP
  have hD : va_D A [(b, .inr (1, [.null, .null, .int (nI 0), .int (nI 0), .int (nI 0)])), (v, .inl (gI g, 8, .inl (fun _ => nI 0)))] := hD
  refine va_putF (D := g.1) (ci := 1) (v := .ref v) (ty := .array .int) (C := RX1) (T := TX1) (N := 5) hx hb hu (fun _ h => h) tyX1 tyX1_ok nmX1 hown hC.1 hP hD hS 0 rfl rfl 0 (by decide) (hts (.fieldLink RX1 9 "SplicedChain$Node" "values" "[I") (by decide +kernel)) (fun _ h9 => h9) rfl hin rfl (by decide +kernel) rfl rfl (Nat.le_of_ble_eq_true rfl) dX1_init_9 (fun H locs hP hD hS => ?_)
  have hP : va_P g.1 vwCl [(b, .inr (1, [.ref v, .null, .int (nI 0), .int (nI 0), .int (nI 0)])), (v, .inl (gI g, 8, .inl (fun _ => nI 0)))] H := hP
  have hD : va_D A [(b, .inr (1, [.ref v, .null, .int (nI 0), .int (nI 0), .int (nI 0)])), (v, .inl (gI g, 8, .inl (fun _ => nI 0)))] := hD
  refine lv_aload_n hx hb dX1_init_12 rfl (lv_at hl 0 rfl) ?_
  refine va_new (ci := 0) (fs := [.null, .null, .int (nI 0)]) (C := RX0) (T := TX0) (N := 3) hx hb hts (by decide +kernel) tyX0 tyX0_ok hown (hts (.classLink RX1 15 RX0) (by decide +kernel)) (hts (.instantiable RX0 3) (by decide +kernel)) (hts (.initialized RX0) (by decide +kernel)) hC.1 hP hD hS hA rfl (fun j hj => by rcases (show j = 0 ∨ j = 1 ∨ j = 2 by omega) with rfl | rfl | rfl <;> rfl) (by decide) (by decide) dX1_init_13 (fun k H hP hD hS => ?_)
  refine lv_dup hx hb dX1_init_16 rfl ?_
  refine kI_N (wr := [(b, .inr (1, [.ref v, .null, .int (nI 0), .int (nI 0), .int (nI 0)])), (v, .inl (gI g, 8, .inl (fun _ => nI 0)))]) (As := []) (rest := [.ref k, .ref b]) hfx (c_X0_init l g k H.size) ⟨va_cnB 0 hts gX1_init_X0_init_n17 rfl rfl rfl (hC.2.2.1 (RX1, 17, yX0_init) (by decide +kernel)) (hts (.initialized RX0) (by decide +kernel)) (by decide +kernel) ⟨by decide, by decide⟩, rfl, hts (.instanceMethod yX0_init) (by decide +kernel)⟩ hC hP hD hS hA rfl hl.1 rfl (Nat.le_of_ble_eq_true rfl) dX1_init_17 ⟨by decide, by decide⟩ (fun u H locs hP hD hS => ?_)
  obtain ⟨q, r, q2, r2⟩ := u
  have hP : va_P g.1 vwCl [(b, .inr (1, [.ref v, .null, .int (nI 0), .int (nI 0), .int (nI 0)])), (v, .inl (gI g, 8, .inl (fun _ => nI 0))), (k, .inr (0, [.ref q, .ref q2, .int (nI 1)])), (q, .inr (2, [.ref r, .int (nI 0), .int (nI 0)])), (r, .inl (gI g, 40, .inl (fun _ => nI 0))), (q2, .inr (2, [.ref r2, .int (nI 0), .int (nI 0)])), (r2, .inl (gI g, 40, .inl (fun _ => nI 0)))] H := hP
  have hD : va_D A [(b, .inr (1, [.ref v, .null, .int (nI 0), .int (nI 0), .int (nI 0)])), (v, .inl (gI g, 8, .inl (fun _ => nI 0))), (k, .inr (0, [.ref q, .ref q2, .int (nI 1)])), (q, .inr (2, [.ref r, .int (nI 0), .int (nI 0)])), (r, .inl (gI g, 40, .inl (fun _ => nI 0))), (q2, .inr (2, [.ref r2, .int (nI 0), .int (nI 0)])), (r2, .inl (gI g, 40, .inl (fun _ => nI 0)))] := hD
  refine va_putF (D := g.1) (ci := 1) (v := .ref k) (ty := .object "SplicedChain$Link") (C := RX1) (T := TX1) (N := 5) hx hb hu (fun _ h => h) tyX1 tyX1_ok nmX1 hown hC.1 hP hD hS 0 rfl rfl 1 (by decide) (hts (.fieldLink RX1 18 "SplicedChain$Node" "link" "LSplicedChain$Link;") (by decide +kernel)) (fun _ h9 => h9) rfl hin rfl (by decide +kernel) rfl rfl (Nat.le_of_ble_eq_true rfl) dX1_init_20 (fun H locs hP hD hS => ?_)
  have hP : va_P g.1 vwCl [(b, .inr (1, [.ref v, .ref k, .int (nI 0), .int (nI 0), .int (nI 0)])), (v, .inl (gI g, 8, .inl (fun _ => nI 0))), (k, .inr (0, [.ref q, .ref q2, .int (nI 1)])), (q, .inr (2, [.ref r, .int (nI 0), .int (nI 0)])), (r, .inl (gI g, 40, .inl (fun _ => nI 0))), (q2, .inr (2, [.ref r2, .int (nI 0), .int (nI 0)])), (r2, .inl (gI g, 40, .inl (fun _ => nI 0)))] H := hP
  have hD : va_D A [(b, .inr (1, [.ref v, .ref k, .int (nI 0), .int (nI 0), .int (nI 0)])), (v, .inl (gI g, 8, .inl (fun _ => nI 0))), (k, .inr (0, [.ref q, .ref q2, .int (nI 1)])), (q, .inr (2, [.ref r, .int (nI 0), .int (nI 0)])), (r, .inl (gI g, 40, .inl (fun _ => nI 0))), (q2, .inr (2, [.ref r2, .int (nI 0), .int (nI 0)])), (r2, .inl (gI g, 40, .inl (fun _ => nI 0)))] := hD
  refine lv_aload_n hx hb dX1_init_23 rfl (lv_at hl 0 rfl) ?_
  refine k_ic (x := 0) hx hb dX1_init_24 (by decide) ?_
  refine va_put (D := g.1) (ci := 1) (v := .int (nI 0)) (ty := .int) (C := RX1) (T := TX1) (N := 5) hx hb hu (fun _ h => h) tyX1 tyX1_ok nmX1 hown hC.1 hP hD hS 0 rfl rfl 2 (by decide) (hts (.fieldLink RX1 22 "SplicedChain$Node" "history" "I") (by decide +kernel)) (fun _ h9 => h9) rfl (by decide +kernel) rfl rfl (Nat.le_of_ble_eq_true rfl) dX1_init_25 (fun H locs hP hD hS => ?_)
  have hP : va_P g.1 vwCl [(b, .inr (1, [.ref v, .ref k, .int (nI 0), .int (nI 0), .int (nI 0)])), (v, .inl (gI g, 8, .inl (fun _ => nI 0))), (k, .inr (0, [.ref q, .ref q2, .int (nI 1)])), (q, .inr (2, [.ref r, .int (nI 0), .int (nI 0)])), (r, .inl (gI g, 40, .inl (fun _ => nI 0))), (q2, .inr (2, [.ref r2, .int (nI 0), .int (nI 0)])), (r2, .inl (gI g, 40, .inl (fun _ => nI 0)))] H := hP
  have hD : va_D A [(b, .inr (1, [.ref v, .ref k, .int (nI 0), .int (nI 0), .int (nI 0)])), (v, .inl (gI g, 8, .inl (fun _ => nI 0))), (k, .inr (0, [.ref q, .ref q2, .int (nI 1)])), (q, .inr (2, [.ref r, .int (nI 0), .int (nI 0)])), (r, .inl (gI g, 40, .inl (fun _ => nI 0))), (q2, .inr (2, [.ref r2, .int (nI 0), .int (nI 0)])), (r2, .inl (gI g, 40, .inl (fun _ => nI 0)))] := hD
  refine lv_aload_n hx hb dX1_init_28 rfl (lv_at hl 0 rfl) ?_
  refine k_ic (x := 0) hx hb dX1_init_29 (by decide) ?_
  refine va_put (D := g.1) (ci := 1) (v := .int (nI 0)) (ty := .int) (C := RX1) (T := TX1) (N := 5) hx hb hu (fun _ h => h) tyX1 tyX1_ok nmX1 hown hC.1 hP hD hS 0 rfl rfl 3 (by decide) (hts (.fieldLink RX1 26 "SplicedChain$Node" "acknowledged" "I") (by decide +kernel)) (fun _ h9 => h9) rfl (by decide +kernel) rfl rfl (Nat.le_of_ble_eq_true rfl) dX1_init_30 (fun H locs hP hD hS => ?_)
  have hP : va_P g.1 vwCl [(b, .inr (1, [.ref v, .ref k, .int (nI 0), .int (nI 0), .int (nI 0)])), (v, .inl (gI g, 8, .inl (fun _ => nI 0))), (k, .inr (0, [.ref q, .ref q2, .int (nI 1)])), (q, .inr (2, [.ref r, .int (nI 0), .int (nI 0)])), (r, .inl (gI g, 40, .inl (fun _ => nI 0))), (q2, .inr (2, [.ref r2, .int (nI 0), .int (nI 0)])), (r2, .inl (gI g, 40, .inl (fun _ => nI 0)))] H := hP
  have hD : va_D A [(b, .inr (1, [.ref v, .ref k, .int (nI 0), .int (nI 0), .int (nI 0)])), (v, .inl (gI g, 8, .inl (fun _ => nI 0))), (k, .inr (0, [.ref q, .ref q2, .int (nI 1)])), (q, .inr (2, [.ref r, .int (nI 0), .int (nI 0)])), (r, .inl (gI g, 40, .inl (fun _ => nI 0))), (q2, .inr (2, [.ref r2, .int (nI 0), .int (nI 0)])), (r2, .inl (gI g, 40, .inl (fun _ => nI 0)))] := hD
  refine lv_aload_n hx hb dX1_init_33 rfl (lv_at hl 0 rfl) ?_
  refine k_ic (x := 0) hx hb dX1_init_34 (by decide) ?_
  refine va_put (D := g.1) (ci := 1) (v := .int (nI 0)) (ty := .boolean) (C := RX1) (T := TX1) (N := 5) hx hb hu (fun _ h => h) tyX1 tyX1_ok nmX1 hown hC.1 hP hD hS 0 rfl rfl 4 (by decide) (hts (.fieldLink RX1 29 "SplicedChain$Node" "failed" "Z") (by decide +kernel)) (fun _ h9 => h9) rfl (by decide +kernel) rfl rfl (Nat.le_of_ble_eq_true rfl) dX1_init_35 (fun H locs hP hD hS => ?_)
  have hP : va_P g.1 vwCl [(b, .inr (1, [.ref v, .ref k, .int (nI 0), .int (nI 0), .int (nI 0)])), (v, .inl (gI g, 8, .inl (fun _ => nI 0))), (k, .inr (0, [.ref q, .ref q2, .int (nI 1)])), (q, .inr (2, [.ref r, .int (nI 0), .int (nI 0)])), (r, .inl (gI g, 40, .inl (fun _ => nI 0))), (q2, .inr (2, [.ref r2, .int (nI 0), .int (nI 0)])), (r2, .inl (gI g, 40, .inl (fun _ => nI 0)))] H := hP
  have hD : va_D A [(b, .inr (1, [.ref v, .ref k, .int (nI 0), .int (nI 0), .int (nI 0)])), (v, .inl (gI g, 8, .inl (fun _ => nI 0))), (k, .inr (0, [.ref q, .ref q2, .int (nI 1)])), (q, .inr (2, [.ref r, .int (nI 0), .int (nI 0)])), (r, .inl (gI g, 40, .inl (fun _ => nI 0))), (q2, .inr (2, [.ref r2, .int (nI 0), .int (nI 0)])), (r2, .inl (gI g, 40, .inl (fun _ => nI 0)))] := hD
  exact k_vretN (v, k, q, r, q2, r2) hx hb hr hlk hP hD hS dX1_init_38
