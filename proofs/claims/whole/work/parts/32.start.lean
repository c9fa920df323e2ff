/-! THE LAW, FROM ITS ENTRY -/
set_option maxHeartbeats 4000000 in
set_option maxRecDepth 100000 in
/-- cell(s, 0) -/
theorem c_cell (l : Launch) {b L : Nat} {xs : Nat → Int32} (hL : L ≤ 1537) : Met l yL_cell wsL_cell ({ frames := 0, cells := 0, slots := 0, locals := 0 }) (va_Pc [.ref b, .int (nI 0)] (fun U => va_X b L xs U U.heap)) (va_Qi (S := Unit) (fun x _ => x = if 0 < L then xs 0 else nI 0) (fun _ _ => True) (fun _ => False)) 0 0 (fun _ => False) := by
  refine Met.ofW (cc := cL_cell) (maxL := 2) (ret := (some .int)) (by decide) rfl ?_
  intro p e s m args below meth c s₁ B hml hv
  obtain ⟨rfl, hX⟩ := hv
  have hx := B.exec
  have hb := B.bytes
  have hr := B.returns
  have hlk := B.notSynchronized
  have hbl : b < s.heap.size := by
    obtain ⟨scr, h1, -⟩ := hX
    exact (Array.getElem?_eq_some_iff.mp h1).1
  have hS : va_S (fun _ => False) s.heap s.heap [] := va_S.rf
  have hl := lv_entry ([.ref b, .int (nI 0)]) (n := 2) (Nat.le_of_ble_eq_true rfl)
  rw [lg_entry_eq]
  generalize (lg_sl ([.ref b, .int (nI 0)]) ++ List.replicate (2 - (lg_sl ([.ref b, .int (nI 0)])).length) Slot.unset).toArray = ls at hl ⊢
  have hl : lv_has ls 2 [(0, .ref b), (1, .int (nI 0))] := hl
  refine lv_iload_n hx hb dL_cell_0 rfl (lv_at hl 1 rfl) ?_
  refine lv_aload_n hx hb dL_cell_1 rfl (lv_at hl 0 rfl) ?_
  refine va_slen hx hb hX hbl (fun h => h) hS dL_cell_2 ?_
  refine k_icmp_ge (x := 0) (y := L) (tgt := 12) hx hb dL_cell_3 (by decide) (by omega) (by omega) (fun h => ?_) (fun h => ?_)
  · refine k_ic (x := 0) hx hb dL_cell_12 (by decide) ?_
    exact W.iret (v := nI 0) hx hb hr (fun t ht hW => ⟨⟨nI 0, (), rfl, by rw [if_neg (by omega)], trivial⟩, hS.F ht⟩) hS.2.2 dL_cell_13 hlk
  · refine lv_aload_n hx hb dL_cell_6 rfl (lv_at hl 0 rfl) ?_
    refine lv_iload_n hx hb dL_cell_7 rfl (lv_at hl 1 rfl) ?_
    refine k_sld hx hb hX hbl (fun h => h) hS h hL dL_cell_8 ?_
    refine lv_goto (tgt := 13) hx hb dL_cell_9 (by decide) ?_
    exact W.iret (v := xs 0) hx hb hr (fun t ht hW => ⟨⟨xs 0, (), rfl, by rw [if_pos h], trivial⟩, hS.F ht⟩) hS.2.2 dL_cell_13 hlk
section STA
variable {p : Program} {l : Launch} {e : Env} {R : Room} {s : State} {m : MethodId} {args : Array Value} {below : List Frame} {meth : Method} {c : Code} {H : Heap} {locs : List Loc} {cells slots : Nat} {Q : State → Prop}
variable {cc : ByteArray} {pc nL : Nat} {rest : List Value} {ls : Array Slot} {g : GG} {A : Nat → Prop} {w : va_W} {H0 : Heap}
/-- the law's call of cell(script, 0) -/
theorem k_cell {b L : Nat} {xs : Nat → Int32} (S : CallFix p m c cc nL s args wsL_law RL) (hL : L ≤ 1537) (hX : va_X b L xs s s.heap) (hbl : b < s.heap.size) (hS : va_S (A0 s) s.heap H locs) (hRR : 0 + 1 ≤ R.frames ∧ 8 + (2 + 11) + 0 ≤ R.locals) (hz : ls.size = nL) (hW : (rest.map fun v => v.category).sum ≤ 8) (hdg : decode cc pc = .ok (.invokestatic 48, 3)) (hf : cells + 0 ≤ R.cells ∧ slots + 0 ≤ R.slots)
    (kk : ∀ (H1 : Heap) (locs1 : List Loc), va_S (A0 s) s.heap H1 locs1 → H.size ≤ H1.size → (∀ q : Nat, q < H.size → H1[q]? = H[q]?) → W p l e R s m args below meth c H1 locs1 (cells + 0) (slots + 0) Q (F0 m (pc + 3) ls (.int (if 0 < L then xs 0 else nI 0) :: rest))) : W p l e R s m args below meth c H locs cells slots Q (F0 m pc ls (.int (nI 0) :: .ref b :: rest)) := by
  have hXH : va_X b L xs s H := hX.kept (hS.2.1 b hbl (Nat.not_le.mpr hbl))
  refine va_calli (va_runS (As := [.ref b, .int (nI 0)]) (rest := rest) S (c_cell l (b := b) (xs := xs) hL) (va_cwS 2 S.2.2.2.2 gL_law_L_cell rfl rfl rfl (by decide +kernel) hRR) ⟨fun a U g mk q => ⟨q.1, va_X.moved (u := U) (U := U.calling g mk a) (Vm.Alike.refl U.vm) q.2⟩, fun U hU hW => ⟨rfl, by show va_X b L xs U U.heap; rw [hU]; exact va_X.moved hW.alike hXH⟩⟩ rfl rfl hz rfl (lv_room (rest := .int (nI 0) :: .ref b :: rest) hW) hdg hf) hS (fun q _ h => h.elim) (fun q h => h.elim) (fun x u t H1 locs1 ht hvm hx hB hz1 hk1 hS1 => ?_)
  subst hx; subst ht
  exact kk _ _ hS1 hz1 (fun q hq => hk1 q hq (fun h => h))
theorem k_newJ (hexec : p.tables.exec = Jvm.exec) (hb : c.code = cc) (harr : (Cond.arrayClass .long).before args s = true) (hC : Cx g s) (hP : va_P g.1 vwCl w H) (hD : va_D A w) (hS : va_S A H0 H locs) (hA : ∀ q, H0.size ≤ q → A q) (hcells : cells + 1 ≤ R.cells) (hslots : slots + 1 ≤ R.slots) (hdg : decode cc pc = .ok (.newarray .long, 2))
    (kk : ∀ (q : Nat) (H1 : Heap), va_P g.1 vwCl (w ++ oC g q (fun _ => 0)) H1 → va_D A (w ++ oC g q (fun _ => 0)) → va_S A H0 H1 locs → W p l e R s m args below meth c H1 locs (cells + 1) (slots + 1) Q (F0 m (pc + 2) ls (.ref q :: rest))) : W p l e R s m args below meth c H locs cells slots Q (F0 m pc ls (.int (nI 1) :: rest)) := by
  refine va_newa (atype := .long) (ty := .long) (a0 := (1, .inr (.inl (fun _ => 0)))) hexec hb harr rfl hC.1 hP hD hS hA (fun cA => vp_cell_l cA 1 _) (nI_pos (by omega)) (nI_clamp (by omega)) (by decide) hcells hslots hdg (fun q cA H1 hK1 hP1 hD1 hS1 => ?_)
  have e1 : s.vm.findClass ("[" ++ FieldType.long.toString) = some cA := (hK1.2 4 (cA, .long) rfl).2
  have e2 : s.vm.findClass ("[" ++ FieldType.long.toString) = some (gJ g) := (hC.1.2 3 (gJ g, .long) rfl).2
  cases Option.some.inj (e1.symm.trans e2)
  exact kk q H1 hP1 hD1 hS1
end STA
theorem D_l {A : Nat → Prop} {w1 w2 : va_W} (h : va_D A (w1 ++ w2)) : va_D A w1 := by
  have inl : ∀ (k : Nat) (q : Nat × va_E), w1[k]? = some q → (w1 ++ w2)[k]? = some q := fun k q h => by
    rw [List.getElem?_append_left (List.getElem?_eq_some_iff.mp h).1]; exact h
  exact ⟨fun i j x y hi hj hxy => h.1 i j x y (inl i x hi) (inl j y hj) hxy, fun k q hk => h.2 k q (inl k q hk)⟩
theorem D_r {A : Nat → Prop} {w1 w2 : va_W} (h : va_D A (w1 ++ w2)) : va_D A w2 := by
  have inr : ∀ (k : Nat) (q : Nat × va_E), w2[k]? = some q → (w1 ++ w2)[w1.length + k]? = some q := fun k q h => by
    rw [List.getElem?_append_right (by omega), Nat.add_sub_cancel_left]; exact h
  exact ⟨fun i j x y hi hj hxy => by have := h.1 _ _ x y (inr i x hi) (inr j y hj) hxy; omega, fun k q hk => h.2 _ q (inr k q hk)⟩
theorem D_x {A : Nat → Prop} {w1 w2 : va_W} (h : va_D A (w1 ++ w2)) {i j : Nat} {x y : Nat × va_E} (hi : w1[i]? = some x) (hj : w2[j]? = some y) : x.1 ≠ y.1 := fun e => by
  have hl := (List.getElem?_eq_some_iff.mp hi).1
  have := h.1 i (w1.length + j) x y (by rw [List.getElem?_append_left hl]; exact hi) (by rw [List.getElem?_append_right (by omega), Nat.add_sub_cancel_left]; exact hj) e
  omega
theorem wM_at {g : GG} {a : Nat → Nat} {s : CS} {k : Nat} (hk : k < 8) : ∃ e, (wM g a s)[k]? = some (a k, e) := by
  rcases (show k = 0 ∨ k = 1 ∨ k = 2 ∨ k = 3 ∨ k = 4 ∨ k = 5 ∨ k = 6 ∨ k = 7 by omega) with rfl | rfl | rfl | rfl | rfl | rfl | rfl | rfl <;> exact ⟨_, rfl⟩
theorem Dj.of {s : State} {g : GG} {a am : Nat → Nat} {n o : Nat} {st t : CS} {f : Nat → Int64} (h : va_D (A0 s) ((wC g a n st ++ wM g am t) ++ oC g o f)) : Dj s a am o n := by
  refine ⟨Ap.of (D_l (D_l h)), Ap.ofM (D_r (D_l h)), (D_r h).2 0 _ rfl, fun k hk => ?_, fun k hk => ?_, fun j k hj hk => ?_⟩
  · exact D_x h (i := k) (j := 0) (by rw [List.getElem?_append_left (by rw [wC_len]; exact hk)]; exact wC_at hk) rfl
  · obtain ⟨e, he⟩ := wM_at (g := g) (a := am) (s := t) hk
    exact D_x h (i := (wC g a n st).length + k) (j := 0) (by rw [List.getElem?_append_right (by omega), Nat.add_sub_cancel_left]; exact he) rfl
  · obtain ⟨e, he⟩ := wM_at (g := g) (a := am) (s := t) hk
    exact D_x (D_l h) (wC_at hj) he
theorem nodes_of (x : Int32) : ∃ n : Nat, ((x = nI n ∧ 1 ≤ n ∧ n ≤ 6) ∨ ((x < nI 1 ∨ nI 6 < x) ∧ n = 3)) ∧ 1 ≤ n ∧ n ≤ 6 := by
  rcases pk_ix x (n := 7) (by decide) with q | q | ⟨j, hj, rfl⟩
  · exact ⟨3, Or.inr ⟨Or.inl (Int32.lt_trans q (by decide)), rfl⟩, by decide, by decide⟩
  · exact ⟨3, Or.inr ⟨Or.inr (Int32.lt_of_lt_of_le (by decide) q), rfl⟩, by decide, by decide⟩
  · by_cases h0 : j = 0
    · subst h0; exact ⟨3, Or.inr ⟨Or.inl (by decide), rfl⟩, by decide, by decide⟩
    · exact ⟨j, Or.inl ⟨rfl, by omega, by omega⟩, by omega, by omega⟩
set_option maxHeartbeats 4000000 in
set_option maxRecDepth 100000 in
/-- THE LAW, from its entry -/
theorem whole_start {p : Program} {e : Env} {s : State} {m : MethodId} {below : List Frame} {meth : Method} {c : Code} (l : Launch) (hlt : l.stackTraces = false) {b L : Nat} {xs : Nat → Int32} (hL : L ≤ 1537) (C0 : lw_At p s m meth c b L xs) : W p l e room_1 s m #[Value.ref b] below meth c s.heap [] 0 0 (lw_Z below #[Value.ref b] s) (entryFrame m ([Value.ref b] : List Value).toArray 9) := by
  obtain ⟨hx, hb, hr, hml, hown, hts0, hX, hbl, hlocks, hgv⟩ := C0
  have hts : ∀ w ∈ wsL_law, w.before #[Value.ref b] s = true := fun w h => hts0 w (wsL_law_in w h)
  have hown : s.vm.findClass RL = some m.cls := hown
  obtain ⟨g, hC⟩ := law_cx hts0
  obtain ⟨sa, hT⟩ := law_tx hts0 hgv
  have hN := law_nx hgv
  have hfx : CallFix p m c cL_law 9 s #[Value.ref b] wsL_law RL := ⟨hx, hb, hml, hown, hts⟩
  obtain ⟨n, hn, hn16⟩ := nodes_of (if 0 < L then xs 0 else nI 0)
  have hA : ∀ q : Nat, s.heap.size ≤ q → A0 s q := fun _ h => h
  have hS : va_S (A0 s) s.heap s.heap [] := va_S.rf
  have hP : va_P g.1 vwCl [] s.heap := fun k q h => by simp at h
  have hD : va_D (A0 s) [] := ⟨fun i j p q h => by simp at h, fun k q h => by simp at h⟩
  have hl := lv_entry ([.ref b]) (n := 9) (Nat.le_of_ble_eq_true rfl)
  rw [lg_entry_eq]
  generalize (lg_sl ([.ref b]) ++ List.replicate (9 - (lg_sl ([.ref b])).length) Slot.unset).toArray = ls at hl ⊢
  have hl : lv_has ls 9 [(0, .ref b)] := hl
  refine va_new (ci := 3) (fs := [.null, .null, .int (nI 0), .null, .null, .int (nI 0)]) (C := RX3) (T := TX3) (N := 6) hx hb hts inlX3 tyX3 tyX3_ok hown (hts (.classLink RL 8 RX3) (by decide +kernel)) (hts (.instantiable RX3 6) (by decide +kernel)) (hts (.initialized RX3) (by decide +kernel)) hC.1 hP hD hS hA rfl (fun j hj => by rcases (show j = 0 ∨ j = 1 ∨ j = 2 ∨ j = 3 ∨ j = 4 ∨ j = 5 by omega) with rfl | rfl | rfl | rfl | rfl | rfl <;> rfl) (by decide) (by decide) dL_law_0 (fun q H hP hD hS => ?_)
  refine lv_dup hx hb dL_law_3 rfl ?_
  refine lv_aload_n hx hb dL_law_4 rfl (lv_at hl 0 rfl) ?_
  refine k_ic (x := 0) hx hb dL_law_5 (by decide) ?_
  refine k_cell (rest := [.ref q, .ref q]) hfx hL hX hbl hS ⟨by decide, by decide⟩ hl.1 (Nat.le_of_ble_eq_true rfl) dL_law_6 ⟨by decide, by decide⟩ (fun H1 locs1 hS1 hz1 hk1 => ?_)
  have hP := hP.kept (fun k x hx => hk1 x.1 (hP k x hx).lt)
  refine kI_P (wr := []) (As := [.int (if 0 < L then xs 0 else nI 0)]) (rest := [.ref q]) hfx (c_X3_init l g q H1.size hn) (cwI 1 hts gL_law_X3_init rfl rfl rfl (hts (.initialized RX3) (by decide +kernel)) (hts (.methodLink RL 54 yX3_init) (by decide +kernel)) (hts (.instanceMethod yX3_init) (by decide +kernel)) rfl (by decide +kernel) ⟨by decide, by decide⟩) hC hP hD hS1 hA rfl hl.1 rfl (Nat.le_of_ble_eq_true rfl) dL_law_9 ⟨by decide, by decide⟩ (fun u H2 locs2 hP hD hS _ _ => ?_)
  obtain ⟨a, rfl⟩ := u
  have hP : va_P g.1 vwCl (wC g a n (iS n n)) H2 := hP
  have hD : va_D (A0 s) (wC g a n (iS n n)) := hD
  refine lv_astore_n (lv' := [(1, .ref (a 0)), (0, .ref b)]) hx hb dL_law_12 rfl hl (by decide) rfl (fun ls hl => ?_)
  refine va_new (ci := 4) (fs := [.int (nI 0), .int (nI 0), .int (nI 0), .null, .null, .null, .null, .null, .null, .null, .int (nI 0)]) (C := RX4) (T := TX4) (N := 11) hx hb hts inlX4 tyX4 tyX4_ok hown (hts (.classLink RL 57 RX4) (by decide +kernel)) (hts (.instantiable RX4 11) (by decide +kernel)) (hts (.initialized RX4) (by decide +kernel)) hC.1 hP hD hS hA rfl (fun j hj => by rcases (show j = 0 ∨ j = 1 ∨ j = 2 ∨ j = 3 ∨ j = 4 ∨ j = 5 ∨ j = 6 ∨ j = 7 ∨ j = 8 ∨ j = 9 ∨ j = 10 by omega) with rfl | rfl | rfl | rfl | rfl | rfl | rfl | rfl | rfl | rfl | rfl <;> rfl) (by decide) (by decide) dL_law_13 (fun q H3 hP hD hS => ?_)
  refine lv_dup hx hb dL_law_16 rfl ?_
  refine lv_aload_n hx hb dL_law_17 rfl (lv_at hl 1 rfl) ?_
  refine k_ic (x := 0) hx hb dL_law_18 (by decide) ?_
  refine k_cell (rest := [.ref q, .ref q]) hfx hL hX hbl hS ⟨by decide, by decide⟩ hl.1 (Nat.le_of_ble_eq_true rfl) dL_law_19 ⟨by decide, by decide⟩ (fun H4 locs4 hS4 hz4 hk4 => ?_)
  have hP := hP.kept (fun k x hx => hk4 x.1 (hP k x hx).lt)
  refine kI_P (wr := wC g a n (iS n n)) (As := [.int (if 0 < L then xs 0 else nI 0)]) (rest := [.ref q]) hfx (c_X4_init l g q H4.size hn) (cwI 1 hts gL_law_X4_init rfl rfl rfl (hts (.initialized RX4) (by decide +kernel)) (hts (.methodLink RL 59 yX4_init) (by decide +kernel)) (hts (.instanceMethod yX4_init) (by decide +kernel)) rfl (by decide +kernel) ⟨by decide, by decide⟩) hC hP hD hS4 hA rfl hl.1 rfl (Nat.le_of_ble_eq_true rfl) dL_law_22 ⟨by decide, by decide⟩ (fun u H5 locs5 hP hD hS _ _ => ?_)
  obtain ⟨am, rfl⟩ := u
  refine lv_astore_n (lv' := [(2, .ref (am 0)), (1, .ref (a 0)), (0, .ref b)]) hx hb dL_law_25 rfl hl (by decide) rfl (fun ls hl => ?_)
  refine k_ic (x := 1) hx hb dL_law_26 (by decide) ?_
  refine k_newJ hx hb (hts (.arrayClass .long) (by decide +kernel)) hC hP hD hS hA (by decide) (by decide) dL_law_27 (fun o H6 hP hD hS => ?_)
  refine lv_astore_n (lv' := [(3, .ref o), (2, .ref (am 0)), (1, .ref (a 0)), (0, .ref b)]) hx hb dL_law_29 rfl hl (by decide) rfl (fun ls hl => ?_)
  refine k_ic (x := 1) hx hb dL_law_30 (by decide) ?_
  refine lv_istore (lv' := [(4, .int (nI 1)), (3, .ref o), (2, .ref (am 0)), (1, .ref (a 0)), (0, .ref b)]) hx hb dL_law_31 hl (by decide) rfl (fun ls hl => ?_)
  have C1 : LC p l s m c b L xs g sa a am o n := ⟨hx, hb, hml, hown, hts, hX, hbl, hL, hlt, hC, hT, hN, Dj.of hD⟩
  exact law_loop C1 hr hlocks (L + 1) 1 (iS n n) (mS n n) (fun _ => 0) H6 _ ls _ _ (by omega) (by decide) (by omega) (by decide) (by decide) ⟨R_init hn16, wO_l (wO_l hP), sub_app (wO_l hP), sub_app hP, hS, lv_sub hl [4, 3, 2, 1, 0] rfl⟩
