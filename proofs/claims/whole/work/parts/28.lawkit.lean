/-! THE LAW'S LOOP -/
theorem wC_key {g : GG} {a : Nat → Nat} {n : Nat} {s : CS} {k : Nat} {q : Nat × va_E} (hk : (wC g a n s)[k]? = some q) : k < 5 + 7 * n ∧ q.1 = a k := by
  have hl := (List.getElem?_eq_some_iff.mp hk).1
  rw [wC_len] at hl
  rw [wC_at hl] at hk
  exact ⟨hl, by rw [← Option.some.inj hk]⟩
theorem wM_key {g : GG} {a : Nat → Nat} {s : CS} {k : Nat} {q : Nat × va_E} (hk : (wM g a s)[k]? = some q) : k < 8 ∧ q.1 = a k := by
  have hl : k < 8 := (List.getElem?_eq_some_iff.mp hk).1
  refine ⟨hl, ?_⟩
  rcases (show k = 0 ∨ k = 1 ∨ k = 2 ∨ k = 3 ∨ k = 4 ∨ k = 5 ∨ k = 6 ∨ k = 7 by omega) with rfl | rfl | rfl | rfl | rfl | rfl | rfl | rfl <;> (cases hk; rfl)
theorem oC_key {g : GG} {o : Nat} {f : Nat → Int64} {k : Nat} {q : Nat × va_E} (hk : (oC g o f)[k]? = some q) : q.1 = o := by
  have hl : k < 1 := (List.getElem?_eq_some_iff.mp hk).1
  obtain rfl : k = 0 := by omega
  cases hk; rfl
abbrev A0 (s : State) : Nat → Prop := fun q => s.heap.size ≤ q
/-- the three worlds lie apart, all made behind the law's start -/
def Dj (s : State) (a am : Nat → Nat) (o n : Nat) : Prop := Ap (A0 s) a (5 + 7 * n) ∧ Ap (A0 s) am 8 ∧ A0 s o ∧ (∀ k, k < 5 + 7 * n → a k ≠ o) ∧ (∀ k, k < 8 → am k ≠ o) ∧ ∀ j k, j < 5 + 7 * n → k < 8 → a j ≠ am k
def LC (p : Program) (l : Launch) (s : State) (m : MethodId) (c : Code) (b L : Nat) (xs : Nat → Int32) (g : GG) (sa a am : Nat → Nat) (o n : Nat) : Prop :=
  p.tables.exec = Jvm.exec ∧ c.code = cL_law ∧ c.maxLocals = 9 ∧ s.vm.findClass RL = some m.cls ∧ (∀ w ∈ wsL_law, w.before #[Value.ref b] s = true) ∧ va_X b L xs s s.heap ∧ b < s.heap.size ∧ L ≤ 1537 ∧ l.stackTraces = false ∧ Cx g s ∧ Tx sa (A0 s) s s.heap ∧ Nx s ∧ Dj s a am o n
def LI (s : State) (b : Nat) (g : GG) (a am : Nat → Nat) (o n i : Nat) (st t : CS) (f : Nat → Int64) (H : Heap) (locs : List Loc) (ls : Array Slot) : Prop :=
  Rl n st t ∧ va_P g.1 vwCl (wC g a n st) H ∧ va_P g.1 vwCl (wM g am t) H ∧ va_P g.1 vwCl (oC g o f) H ∧ va_S (A0 s) s.heap H locs ∧ lv_has ls 9 [(0, .ref b), (1, .ref (a 0)), (2, .ref (am 0)), (3, .ref o), (4, .int (nI i))]
/-- what a class call may change: its cells, the law's row, new cells -/
def A2 (a : Nat → Nat) (o n z : Nat) : Nat → Prop := fun q => (∃ k, k < 5 + 7 * n ∧ q = a k) ∨ q = o ∨ z ≤ q
def AC (a : Nat → Nat) (n : Nat) : Nat → Prop := fun q => ∃ k, k < 5 + 7 * n ∧ q = a k
def AM (am : Nat → Nat) : Nat → Prop := fun q => ∃ k, k < 8 ∧ q = am k
section LAW
variable {p : Program} {l : Launch} {e : Env} {R : Room} {s : State} {m : MethodId} {args : Array Value} {below : List Frame} {meth : Method} {c : Code} {H : Heap} {locs : List Loc} {cells slots : Nat} {Q : State → Prop}
variable {y : MethodName} {bytes cc : ByteArray} {maxL nL nn index pc : Nat} {ret : Option FieldType} {hh : List (Nat × Nat × Nat × Nat)} {ws : List Cond} {rm : Room} {Ts : List Cond} {own : String} {As rest st0 : List Value} {ls : Array Slot} {g : GG} {B0 B1 : Nat → Prop} {H0 : Heap} {sa a am : Nat → Nat} {n o b L : Nat} {st st2 t : CS} {f f2 : Nat → Int64} {xs : Nat → Int32}
/-- a call of the law's own static method -/
theorem kS_W {r : Int32} (S : CallFix p m c cc nL s args Ts own) (hM : Met l y ws rm (pW g sa B1 As a n st o f H.size) (qW g r a n st2 o f2 B1) 1 6 B1) (cw : vx_CSW R s args own index y bytes maxL ret hh ws rm 1 6 nn) (hC : Cx g s) (hT : Tx sa B1 s H) (hN : Nx s) (hP : va_P g.1 vwCl (wC g a n st) H) (hO : va_P g.1 vwCl (oC g o f) H) (hS : va_S B0 H0 H locs) (hA : ∀ q, B1 q → B0 q)
    (hn : As.length = nn) (hz : ls.size = nL) (hst : st0 = As.reverse ++ rest) (hW : (rest.map fun v => v.category).sum ≤ 8) (hdg : decode cc pc = .ok (.invokestatic index, 3)) (hf : cells + 1 ≤ R.cells ∧ slots + 6 ≤ R.slots)
    (kk : ∀ (H1 : Heap) (locs1 : List Loc), va_P g.1 vwCl (wC g a n st2) H1 → va_P g.1 vwCl (oC g o f2) H1 → va_S B0 H0 H1 locs1 → H.size ≤ H1.size → (∀ q : Nat, q < H.size → ¬ B1 q → H1[q]? = H[q]?) → W p l e R s m args below meth c H1 locs1 (cells + 1) (slots + 6) Q (F0 m (pc + 3) ls (.int r :: rest))) : W p l e R s m args below meth c H locs cells slots Q (F0 m pc ls st0) := by
  refine va_calli (vx_runSW (As := As) (rest := rest) S hM cw ⟨pW_blind, fun U hU hW => ⟨rfl, by rw [hU], by rw [hU]; exact hP, by rw [hU]; exact hO, hC.moved hW, by rw [hU]; exact hT.moved hW, hN.moved hW.alike⟩⟩ rfl hn hz hst (lv_room (rest := st0) hW) hdg hf) hS (fun q _ h => hA q h) hA (fun x u t H1 locs1 ht hvm hx hB hz1 hk1 hS1 => ?_)
  subst hx; subst ht
  exact kk _ _ hB.1 hB.2 hS1 hz1 hk1
theorem k_sld {j : Nat} {A : Nat → Prop} (hexec : p.tables.exec = Jvm.exec) (hb : c.code = cc) (hX : va_X b L xs s H0) (hbl : b < H0.size) (hbA : ¬ A b) (hS : va_S A H0 H locs) (hj : j < L) (hL : L ≤ 1537) (hdg : decode cc pc = .ok (.iaload, 1))
    (kk : W p l e R s m args below meth c H locs cells slots Q (F0 m (pc + 1) ls (.int (xs j) :: rest))) : W p l e R s m args below meth c H locs cells slots Q (F0 m pc ls (.int (nI j) :: .ref b :: rest)) := by
  refine va_sld hexec hb hX hbl hbA hS (vp_in_nI hj (by omega)) hdg ?_
  rw [nI_clamp (by omega)]; exact kk
theorem k_lald0 (hexec : p.tables.exec = Jvm.exec) (hb : c.code = cc) (hC : Cx g s) (hO : va_P g.1 vwCl (oC g o f) H) (hdg : decode cc pc = .ok (.laload, 1))
    (kk : W p l e R s m args below meth c H locs cells slots Q (F0 m (pc + 1) ls (.long (f 0) :: rest))) : W p l e R s m args below meth c H locs cells slots Q (F0 m pc ls (.int (nI 0) :: .ref o :: rest)) := by
  refine va_lald hexec hb hC.1 hO 0 3 rfl rfl (vp_in_nI (by decide) (by decide)) hdg ?_
  rw [nI_clamp (by decide)]; exact kk
theorem k_lcmp0 {x z : Int64} {off : Int} {tgt : Nat} (hexec : p.tables.exec = Jvm.exec) (hb : c.code = cc) (hxz : x = z) (hdg : decode cc pc = .ok (.lcmp, 1)) (hd2 : decode cc (pc + 1) = .ok (.ifCond .eq off, 3)) (ht : ((pc + 1 : Nat) : Int) + off = (tgt : Int))
    (kk : W p l e R s m args below meth c H locs cells slots Q (F0 m tgt ls rest)) : W p l e R s m args below meth c H locs cells slots Q (F0 m pc ls (.long z :: .long x :: rest)) := by
  refine W.lcmp hexec hb hdg ?_
  subst hxz
  have e : lg_cmp x x = 0 := by unfold lg_cmp; rw [if_neg (Int64.lt_irrefl), if_pos rfl]
  rw [e]
  exact lv_if_eq (tgt := tgt) hexec hb hd2 ht (fun _ => kk) (fun h => absurd rfl h)
theorem A2_Ap (h : Dj s a am o n) {z : Nat} : Ap (A2 a o n z) a (5 + 7 * n) := ⟨h.1.1, fun k hk => Or.inl ⟨k, hk, rfl⟩⟩
theorem A2_in (h : Dj s a am o n) (hS : va_S (A0 s) s.heap H locs) : ∀ q, A2 a o n H.size q → A0 s q := fun q hq => by
  rcases hq with ⟨k, hk, rfl⟩ | rfl | hq
  · exact h.1.2 k hk
  · exact h.2.2.1
  · exact Nat.le_trans hS.1 hq
theorem A2_M (h : Dj s a am o n) {H1 : Heap} (hM : va_P g.1 vwCl (wM g am t) H) (hk : ∀ q : Nat, q < H.size → ¬ A2 a o n H.size q → H1[q]? = H[q]?) : va_P g.1 vwCl (wM g am t) H1 := hM.kept (fun k q hq => by
  obtain ⟨h1, h2⟩ := wM_key hq
  have hlt := (hM k q hq).lt
  refine hk q.1 hlt (fun z => ?_)
  rcases z with ⟨j, hj, e1⟩ | e1 | e1
  · exact h.2.2.2.2.2 j k hj h1 (e1.symm.trans h2)
  · exact h.2.2.2.2.1 k h1 (h2.symm.trans e1)
  · omega)
theorem AC_Ap (h : Dj s a am o n) : Ap (AC a n) a (5 + 7 * n) := ⟨h.1.1, fun k hk => ⟨k, hk, rfl⟩⟩
theorem AC_in (h : Dj s a am o n) : ∀ q, AC a n q → A0 s q := fun q hq => by obtain ⟨k, hk, rfl⟩ := hq; exact h.1.2 k hk
theorem AC_M (h : Dj s a am o n) {H1 : Heap} (hM : va_P g.1 vwCl (wM g am t) H) (hk : ∀ q : Nat, q < H.size → ¬ AC a n q → H1[q]? = H[q]?) : va_P g.1 vwCl (wM g am t) H1 := hM.kept (fun k q hq => by
  obtain ⟨h1, h2⟩ := wM_key hq
  refine hk q.1 (hM k q hq).lt (fun z => ?_)
  obtain ⟨j, hj, e1⟩ := z
  exact h.2.2.2.2.2 j k hj h1 (e1.symm.trans h2))
theorem AC_O (h : Dj s a am o n) {H1 : Heap} (hO : va_P g.1 vwCl (oC g o f) H) (hk : ∀ q : Nat, q < H.size → ¬ AC a n q → H1[q]? = H[q]?) : va_P g.1 vwCl (oC g o f) H1 := hO.kept (fun k q hq => by
  have h2 := oC_key hq
  refine hk q.1 (hO k q hq).lt (fun z => ?_)
  obtain ⟨j, hj, e1⟩ := z
  exact h.2.2.2.1 j hj (e1.symm.trans h2))
theorem AM_Ap (h : Dj s a am o n) : Ap (AM am) am 8 := ⟨h.2.1.1, fun k hk => ⟨k, hk, rfl⟩⟩
theorem AM_in (h : Dj s a am o n) : ∀ q, AM am q → A0 s q := fun q hq => by obtain ⟨k, hk, rfl⟩ := hq; exact h.2.1.2 k hk
theorem AM_C (h : Dj s a am o n) {H1 : Heap} (hP : va_P g.1 vwCl (wC g a n st) H) (hk : ∀ q : Nat, q < H.size → ¬ AM am q → H1[q]? = H[q]?) : va_P g.1 vwCl (wC g a n st) H1 := hP.kept (fun k q hq => by
  obtain ⟨h1, h2⟩ := wC_key hq
  refine hk q.1 (hP k q hq).lt (fun z => ?_)
  obtain ⟨j, hj, e1⟩ := z
  exact h.2.2.2.2.2 k j h1 hj (h2.symm.trans e1))
theorem AM_O (h : Dj s a am o n) {H1 : Heap} (hO : va_P g.1 vwCl (oC g o f) H) (hk : ∀ q : Nat, q < H.size → ¬ AM am q → H1[q]? = H[q]?) : va_P g.1 vwCl (oC g o f) H1 := hO.kept (fun k q hq => by
  have h2 := oC_key hq
  refine hk q.1 (hO k q hq).lt (fun z => ?_)
  obtain ⟨j, hj, e1⟩ := z
  exact h.2.2.2.2.1 j hj (e1.symm.trans h2))
theorem T_at (hT : Tx sa (A0 s) s s.heap) (hS : va_S (A0 s) s.heap H locs) : Tx sa (A0 s) s H := hT.kept (fun q h1 h2 => hS.2.1 q h1 h2)
end LAW
