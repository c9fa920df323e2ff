abbrev qD (g : GG) (r : UInt64) (w : va_W) (A : Nat → Prop) := va_Qd (S := Unit) (fun x _ => x = r) (fun _ t => va_P g.1 vwCl w t.heap) A
section KD
variable {p : Program} {l : Launch} {e : Env} {R : Room} {s : State} {m : MethodId} {args : Array Value} {below : List Frame} {meth : Method} {c : Code} {H : Heap} {locs : List Loc} {cells slots : Nat} {Q : State → Prop}
variable {y : MethodName} {bytes cc : ByteArray} {maxL nL mc ms n index pc : Nat} {ret : Option FieldType} {ws : List Cond} {rm : Room} {Ts : List Cond} {own C : String} {b : Addr} {As rest st0 : List Value} {ls : Array Slot} {g : GG} {A0 A1 : Nat → Prop} {w w2 : va_W} {H0 : Heap}
theorem k_dret {r v : UInt64} (hexec : p.tables.exec = Jvm.exec) (hb : c.code = cc) (hr : meth.sig.returnType = some .double) (hlk : meth.locks = false) (hv : v = r) (hP : va_P g.1 vwCl w H) (hS : va_S A0 s.heap H locs) (hdg : decode cc pc = .ok (.dreturn, 1)) : W p l e R s m args below meth c H locs cells slots (MQ below (qD g r w A0) args s cells slots A0) (F0 m pc ls [.double v]) :=
  W.dret (v := v) hexec hb hr (fun t ht hW => ⟨⟨v, (), rfl, hv, by show va_P g.1 vwCl w t.heap; rw [ht]; exact hP⟩, hS.F ht⟩) hS.2.2 hdg hlk
theorem kV_d {r : UInt64} (S : CallFix p m c cc nL s args Ts own) (hM : Met l y ws rm (pC g (.ref b :: As) w) (qD g r w2 A1) mc ms A1) (cw : CallW R s args own C index y bytes maxL ret ws rm mc ms n) (hrc : ∃ cell : Cell, H[b]? = some cell ∧ cell.vm.isStatics = false ∧ s.vm.findClass C = some cell.cls) (hC : Cx g s) (hP : va_P g.1 vwCl w H) (hS : va_S A0 H0 H locs) (hA : ∀ q, A1 q → A0 q)
    (hn : As.length = n) (hz : ls.size = nL) (hst : st0 = As.reverse ++ .ref b :: rest) (hW : (rest.map fun v => v.category).sum ≤ 8) (hdg : decode cc pc = .ok (.invokevirtual index, 3)) (hf : cells + mc ≤ R.cells ∧ slots + ms ≤ R.slots)
    (kk : ∀ (H1 : Heap) (locs1 : List Loc), va_P g.1 vwCl w2 H1 → va_S A0 H0 H1 locs1 → H.size ≤ H1.size → (∀ q : Nat, q < H.size → ¬ A1 q → H1[q]? = H[q]?) → W p l e R s m args below meth c H1 locs1 (cells + mc) (slots + ms) Q (F0 m (pc + 3) ls (.double r :: rest))) : W p l e R s m args below meth c H locs cells slots Q (F0 m pc ls st0) := by
  refine va_calld (va_runV (As := As) (rest := rest) S hM cw (kV_pre hC hP hrc) rfl hn hz hst (lv_room (rest := st0) hW) hdg hf) hS (fun q _ h => hA q h) hA (fun x u t H1 locs1 ht hvm hx hB hz1 hk1 hS1 => ?_)
  subst hx; subst ht
  exact kk _ _ hB hS1 hz1 hk1
end KD
/-- the quotients that lag can make: no NaN, and equal to themselves -/
def quo (b c : Nat) : UInt64 := FP.ddiv (FP.i2d (nI b)) (FP.i2d (nI c))
theorem quo_all : ∀ b, b < 241 → ∀ c, c < 7 → c ≠ 0 → (quo b c &&& 0x7fffffffffffffff ≤ 0x7ff0000000000000 ∧ Op.cmpValue (FP.dcmp (quo b c) (quo b c)) CmpOp.l = 0) := by decide +kernel
/-- standing nodes, the first one's history, the sum of what lacks, over the chain's first k -/
def lagF (s : CS) : Nat → Nat × Nat × Nat
  | 0 => (0, 0, 0)
  | k + 1 => if s 7 (s 0 0 k) 0 = 0 then ((lagF s k).1 + 1, (if (lagF s k).1 = 0 then s 5 (s 0 0 k) 0 else (lagF s k).2.1), (lagF s k).2.2 + ((if (lagF s k).1 = 0 then s 5 (s 0 0 k) 0 else (lagF s k).2.1) - s 5 (s 0 0 k) 0)) else lagF s k
theorem lagF_f (s : CS) : ∀ k, (lagF s k).1 ≠ 0 → ∃ j, j < k ∧ (lagF s k).2.1 = s 5 (s 0 0 j) 0
  | 0, h => absurd rfl h
  | k + 1, h => by
    by_cases h7 : s 7 (s 0 0 k) 0 = 0
    · by_cases hc : (lagF s k).1 = 0
      · exact ⟨k, by omega, by simp [lagF, h7, hc]⟩
      · obtain ⟨j, h1, h2⟩ := lagF_f s k hc
        exact ⟨j, by omega, by simp [lagF, h7, hc, h2]⟩
    · simp only [lagF, h7, if_false] at h ⊢
      obtain ⟨j, h1, h2⟩ := lagF_f s k h
      exact ⟨j, by omega, h2⟩
theorem lagF_c (s : CS) : ∀ k, (lagF s k).1 ≤ k
  | 0 => Nat.le_refl 0
  | k + 1 => by have := lagF_c s k; simp only [lagF]; split <;> simp <;> omega
theorem lagF_b (s : CS) (hh : ∀ k, s 5 (s 0 0 k) 0 ≤ 40 ∨ True) : ∀ k, (∀ j, j < k → s 5 (s 0 0 j) 0 ≤ 40) → (lagF s k).2.2 ≤ 40 * k ∧ (lagF s k).2.1 ≤ 40
  | 0, _ => ⟨Nat.le_refl 0, by simp [lagF]⟩
  | k + 1, h => by
    have h1 := lagF_b s hh k (fun j hj => h j (by omega)); have h2 := h k (by omega)
    simp only [lagF]; split
    · by_cases hc : (lagF s k).1 = 0 <;> simp [hc] <;> omega
    · omega
set_option maxHeartbeats 4000000 in
set_option maxRecDepth 100000 in
/-- lag -/
theorem c_X3_lag (l : Launch) {g : GG} {a : Nat → Nat} {n : Nat} {A : Nat → Prop} (hA : Ap A a (5 + 7 * n)) (hn6 : n ≤ 6) {s : CS} (hs : Sh n s) (hmono : ∀ j k, j ≤ k → k < s 1 0 0 → s 5 (s 0 0 k) 0 ≤ s 5 (s 0 0 j) 0) (hstand : (lagF s (s 1 0 0)).1 ≠ 0) : Met l yX3_lag wsX3_lag ({ frames := 1, cells := 0, slots := 0, locals := 21 }) (pC g [.ref (a 0)] (wC g a n s)) (qD g (quo (lagF s (s 1 0 0)).2.2 (lagF s (s 1 0 0)).1) (wC g a n s) A) 0 0 A := by
  refine k_start (cc := cX3_lag) (maxL := 6) (ret := (some .double)) (by decide) rfl (Nat.le_of_ble_eq_true rfl) ?_
  intro pr en s0 m args below meth cd hx hb hml hr hlk hts hown hin hC hP ls hl
  have hS : va_S A s0.heap s0.heap [] := va_S.rf
  have hfx : CallFix pr m cd cX3_lag 6 s0 args wsX3_lag RX3 := ⟨hx, hb, hml, hown, hts⟩
  have hu3 : ∀ w ∈ wsX30, w.before args s0 = true := fun w h => hts w ((by decide +kernel : ∀ w ∈ wsX30, w ∈ wsX3_lag) w h)
  have hu1 : ∀ w ∈ wsX10, w.before args s0 = true := fun w h => hts w ((by decide +kernel : ∀ w ∈ wsX10, w ∈ wsX3_lag) w h)
  have hl : lv_has ls 6 [(0, .ref (a 0))] := hl
  have f0 := hs.len
  have f5 : ∀ k, k < s 1 0 0 → s 5 (s 0 0 k) 0 ≤ 40 := fun k hk => (hs.nd _ (hs.ch k (by omega))).1
  have loop : ∀ (d k : Nat), s 1 0 0 + 1 ≤ k + d → k ≤ s 1 0 0 → ∀ (H : Heap) (locs : List Loc), va_P g.1 vwCl (wC g a n s) H → va_S A s0.heap H locs → ∀ ls : Array Slot, lv_has ls 6 [(4, .int (nI k)), (3, .int (nI ((lagF s k).2.2))), (2, .int (nI ((lagF s k).2.1))), (1, .int (nI ((lagF s k).1))), (0, .ref (a 0))] → W pr l en ({ frames := 1, cells := 0, slots := 0, locals := 21 }) s0 m args below meth cd H locs 0 0 (MQ below (qD g (quo (lagF s (s 1 0 0)).2.2 (lagF s (s 1 0 0)).1) (wC g a n s) A) args s0 0 0 A) (F0 m 9 ls []) := by
    intro d
    induction d with
    | zero => intro k h1 h2; exact absurd h1 (by omega)
    | succ d ih =>
      intro k h1 h2 H locs hP hS ls hl
      have g1 := lagF_c s k
      have g2 := lagF_b s (fun _ => Or.inr trivial) k (fun j hj => f5 j (by omega))
      refine lv_iload hx hb dX3_lag_9 (lv_at hl 0 rfl) ?_
      refine lv_aload_n hx hb dX3_lag_11 rfl (lv_at hl 4 rfl) ?_
      refine va_get (D := g.1) (C := RX3) (T := TX3) (N := 6) (ci := 3) hx hb hu3 (fun _ h => h) hown hC.1 hP _ (wC_obj) rfl 2 (by decide) (hts (.fieldLink RX3 29 "SplicedChain" "chainLength" "I") (by decide +kernel)) (fun _ h9 => h9) rfl dX3_lag_12 ?_
      refine k_icmp_ge (tgt := 63) hx hb dX3_lag_15 (by decide) (by omega) (by omega) (fun c15 => ?_) (fun c15 => ?_)
      · skip
        have ek : k = s 1 0 0 := by omega
        refine lv_iload_n hx hb dX3_lag_63 rfl (lv_at hl 3 rfl) ?_
        refine k_if_ne (tgt := 71) hx hb dX3_lag_64 (by decide) (by omega) (fun c64 => ?_) (fun c64 => ?_)
        · skip
          refine lv_iload_n hx hb dX3_lag_71 rfl (lv_at hl 1 rfl) ?_
          refine lv_i2d hx hb dX3_lag_72 ?_
          refine lv_iload_n hx hb dX3_lag_73 rfl (lv_at hl 3 rfl) ?_
          refine lv_i2d hx hb dX3_lag_74 ?_
          refine lv_ddiv hx hb dX3_lag_75 ((quo_all _ (by omega) _ (by omega) (by omega)).1) ?_
          exact k_dret hx hb hr hlk (by rw [ek]; rfl) hP hS dX3_lag_76
        · exact absurd (by rw [← ek]; exact c64) hstand
      · skip
        have f1 := hs.ch k (by omega)
        have f2 := hs.nd _ f1
        refine lv_aload_n hx hb dX3_lag_18 rfl (lv_at hl 4 rfl) ?_
        refine lv_iload hx hb dX3_lag_19 (lv_at hl 0 rfl) ?_
        refine kV_r (r := a (7 * (s 0 0 k) + 5)) (w2 := wC g a n s) (As := [.int (nI k)]) (b := a 0) (rest := []) (A1 := A) hfx (c_X3_nodeAt l hA hn6 (s := s) (p := k) (x := s 0 0 k) (rfl) (by omega) (by omega)) (cwV 1 hts gX3_lag_X3_nodeAt rfl rfl rfl (by decide +kernel) ⟨by decide, by decide⟩) (va_recv hC.1 hP (ci := 3) rfl (wC_obj)) hC hP hS (fun _ h => h) rfl hl.1 rfl (Nat.le_of_ble_eq_true rfl) dX3_lag_21 ⟨Nat.le_of_ble_eq_true rfl, Nat.le_of_ble_eq_true rfl⟩ (fun H locs hP hS _ _ => ?_)
        refine lv_astore (lv' := [(5, .ref (a (7 * (s 0 0 k) + 5))), (4, .int (nI k)), (3, .int (nI ((lagF s k).2.2))), (2, .int (nI ((lagF s k).2.1))), (1, .int (nI ((lagF s k).1))), (0, .ref (a 0))]) hx hb dX3_lag_24 hl (by decide) rfl (fun ls hl => ?_)
        refine lv_aload hx hb dX3_lag_26 (lv_at hl 0 rfl) ?_
        refine va_getN (D := g.1) (C := RX1) (T := TX1) (N := 5) (ci := 1) hx hb hu1 (fun _ h => h) hown hC.1 hP _ (wC_node (i := (s 0 0 k)) (by omega)) rfl 4 (by decide) (hC.F (i := 48) (r := RX1) (n := "failed") (d := "Z") (by decide +kernel)) (fun _ h9 => h9) rfl dX3_lag_28 ?_
        refine k_if_ne (tgt := 57) hx hb dX3_lag_31 (by decide) (by omega) (fun c31 => ?_) (fun c31 => ?_)
        · skip
          have z7 : ¬ s 7 (s 0 0 k) 0 = 0 := by omega
          refine lv_iinc (v := nI (k + 1)) (lv' := [(4, .int (nI (k + 1))), (5, .ref (a (7 * (s 0 0 k) + 5))), (3, .int (nI ((lagF s k).2.2))), (2, .int (nI ((lagF s k).2.1))), (1, .int (nI ((lagF s k).1))), (0, .ref (a 0))]) hx hb dX3_lag_57 hl (k := 1) rfl (nI_add _ _) (by decide) rfl (fun ls hl => ?_)
          refine lv_goto (tgt := 9) hx hb dX3_lag_60 (by decide) ?_
          exact ih (k + 1) (by omega) (by omega) H locs hP hS ls (by rw [show lagF s (k + 1) = ((lagF s k).1, (lagF s k).2.1, (lagF s k).2.2) by simp [lagF, z7]]; exact lv_sub hl [0, 2, 3, 4, 5] rfl)
        · skip
          have z7 : s 7 (s 0 0 k) 0 = 0 := by omega
          refine lv_iload_n hx hb dX3_lag_34 rfl (lv_at hl 4 rfl) ?_
          refine k_if_ne (tgt := 44) hx hb dX3_lag_35 (by decide) (by omega) (fun c35 => ?_) (fun c35 => ?_)
          · skip
            have z1 : ¬ (lagF s k).1 = 0 := by omega
            have f3 : s 5 (s 0 0 k) 0 ≤ (lagF s k).2.1 := by obtain ⟨j, q1, q2⟩ := lagF_f s k z1; rw [q2]; exact hmono j k (by omega) (by omega)
            refine lv_iinc (v := nI ((lagF s k).1 + 1)) (lv' := [(1, .int (nI ((lagF s k).1 + 1))), (5, .ref (a (7 * (s 0 0 k) + 5))), (4, .int (nI k)), (3, .int (nI ((lagF s k).2.2))), (2, .int (nI ((lagF s k).2.1))), (0, .ref (a 0))]) hx hb dX3_lag_44 hl (k := 4) rfl (nI_add _ _) (by decide) rfl (fun ls hl => ?_)
            refine lv_iload_n hx hb dX3_lag_47 rfl (lv_at hl 3 rfl) ?_
            refine lv_iload_n hx hb dX3_lag_48 rfl (lv_at hl 4 rfl) ?_
            refine lv_aload hx hb dX3_lag_49 (lv_at hl 1 rfl) ?_
            refine va_getN (D := g.1) (C := RX1) (T := TX1) (N := 5) (ci := 1) hx hb hu1 (fun _ h => h) hown hC.1 hP _ (wC_node (i := (s 0 0 k)) (by omega)) rfl 2 (by decide) (hC.F (i := 52) (r := RX1) (n := "history") (d := "I") (by decide +kernel)) (fun _ h9 => h9) rfl dX3_lag_51 ?_
            refine k_isub (x := (lagF s k).2.1) (y := s 5 ((s 0 0 k)) 0) hx hb (by omega) dX3_lag_54 ?_
            refine k_iadd (x := (lagF s k).2.2) (y := ((lagF s k).2.1) - (s 5 ((s 0 0 k)) 0)) hx hb dX3_lag_55 ?_
            refine lv_istore_n (lv' := [(3, .int (nI (((lagF s k).2.2) + (((lagF s k).2.1) - (s 5 ((s 0 0 k)) 0))))), (1, .int (nI ((lagF s k).1 + 1))), (5, .ref (a (7 * (s 0 0 k) + 5))), (4, .int (nI k)), (2, .int (nI ((lagF s k).2.1))), (0, .ref (a 0))]) hx hb dX3_lag_56 rfl hl (by decide) rfl (fun ls hl => ?_)
            refine lv_iinc (v := nI (k + 1)) (lv' := [(4, .int (nI (k + 1))), (3, .int (nI (((lagF s k).2.2) + (((lagF s k).2.1) - (s 5 ((s 0 0 k)) 0))))), (1, .int (nI ((lagF s k).1 + 1))), (5, .ref (a (7 * (s 0 0 k) + 5))), (2, .int (nI ((lagF s k).2.1))), (0, .ref (a 0))]) hx hb dX3_lag_57 hl (k := 3) rfl (nI_add _ _) (by decide) rfl (fun ls hl => ?_)
            refine lv_goto (tgt := 9) hx hb dX3_lag_60 (by decide) ?_
            exact ih (k + 1) (by omega) (by omega) H locs hP hS ls (by rw [show lagF s (k + 1) = ((lagF s k).1 + 1, (lagF s k).2.1, ((lagF s k).2.2) + (((lagF s k).2.1) - (s 5 ((s 0 0 k)) 0))) by simp [lagF, z7, z1]]; exact lv_sub hl [0, 1, 4, 2, 5] rfl)
          · skip
            have z1 : (lagF s k).1 = 0 := by omega
            refine lv_aload hx hb dX3_lag_38 (lv_at hl 0 rfl) ?_
            refine va_getN (D := g.1) (C := RX1) (T := TX1) (N := 5) (ci := 1) hx hb hu1 (fun _ h => h) hown hC.1 hP _ (wC_node (i := (s 0 0 k)) (by omega)) rfl 2 (by decide) (hC.F (i := 52) (r := RX1) (n := "history") (d := "I") (by decide +kernel)) (fun _ h9 => h9) rfl dX3_lag_40 ?_
            refine lv_istore_n (lv' := [(2, .int (nI (s 5 ((s 0 0 k)) 0))), (5, .ref (a (7 * (s 0 0 k) + 5))), (4, .int (nI k)), (3, .int (nI ((lagF s k).2.2))), (1, .int (nI ((lagF s k).1))), (0, .ref (a 0))]) hx hb dX3_lag_43 rfl hl (by decide) rfl (fun ls hl => ?_)
            refine lv_iinc (v := nI ((lagF s k).1 + 1)) (lv' := [(1, .int (nI ((lagF s k).1 + 1))), (2, .int (nI (s 5 ((s 0 0 k)) 0))), (5, .ref (a (7 * (s 0 0 k) + 5))), (4, .int (nI k)), (3, .int (nI ((lagF s k).2.2))), (0, .ref (a 0))]) hx hb dX3_lag_44 hl (k := 4) rfl (nI_add _ _) (by decide) rfl (fun ls hl => ?_)
            refine lv_iload_n hx hb dX3_lag_47 rfl (lv_at hl 4 rfl) ?_
            refine lv_iload_n hx hb dX3_lag_48 rfl (lv_at hl 1 rfl) ?_
            refine lv_aload hx hb dX3_lag_49 (lv_at hl 2 rfl) ?_
            refine va_getN (D := g.1) (C := RX1) (T := TX1) (N := 5) (ci := 1) hx hb hu1 (fun _ h => h) hown hC.1 hP _ (wC_node (i := (s 0 0 k)) (by omega)) rfl 2 (by decide) (hC.F (i := 52) (r := RX1) (n := "history") (d := "I") (by decide +kernel)) (fun _ h9 => h9) rfl dX3_lag_51 ?_
            refine k_isub (x := s 5 ((s 0 0 k)) 0) (y := s 5 ((s 0 0 k)) 0) hx hb (by omega) dX3_lag_54 ?_
            refine k_iadd (x := (lagF s k).2.2) (y := (s 5 ((s 0 0 k)) 0) - (s 5 ((s 0 0 k)) 0)) hx hb dX3_lag_55 ?_
            refine lv_istore_n (lv' := [(3, .int (nI (((lagF s k).2.2) + ((s 5 ((s 0 0 k)) 0) - (s 5 ((s 0 0 k)) 0))))), (1, .int (nI ((lagF s k).1 + 1))), (2, .int (nI (s 5 ((s 0 0 k)) 0))), (5, .ref (a (7 * (s 0 0 k) + 5))), (4, .int (nI k)), (0, .ref (a 0))]) hx hb dX3_lag_56 rfl hl (by decide) rfl (fun ls hl => ?_)
            refine lv_iinc (v := nI (k + 1)) (lv' := [(4, .int (nI (k + 1))), (3, .int (nI (((lagF s k).2.2) + ((s 5 ((s 0 0 k)) 0) - (s 5 ((s 0 0 k)) 0))))), (1, .int (nI ((lagF s k).1 + 1))), (2, .int (nI (s 5 ((s 0 0 k)) 0))), (5, .ref (a (7 * (s 0 0 k) + 5))), (0, .ref (a 0))]) hx hb dX3_lag_57 hl (k := 4) rfl (nI_add _ _) (by decide) rfl (fun ls hl => ?_)
            refine lv_goto (tgt := 9) hx hb dX3_lag_60 (by decide) ?_
            exact ih (k + 1) (by omega) (by omega) H locs hP hS ls (by rw [show lagF s (k + 1) = ((lagF s k).1 + 1, s 5 ((s 0 0 k)) 0, ((lagF s k).2.2) + ((s 5 ((s 0 0 k)) 0) - (s 5 ((s 0 0 k)) 0))) by simp [lagF, z7, z1]]; exact lv_sub hl [0, 1, 3, 2, 5] rfl)
  refine k_ic (x := 0) hx hb dX3_lag_0 (by decide) ?_
  refine lv_istore_n (lv' := [(1, .int (nI 0)), (0, .ref (a 0))]) hx hb dX3_lag_1 rfl hl (by decide) rfl (fun ls hl => ?_)
  refine k_ic (x := 0) hx hb dX3_lag_2 (by decide) ?_
  refine lv_istore_n (lv' := [(2, .int (nI 0)), (1, .int (nI 0)), (0, .ref (a 0))]) hx hb dX3_lag_3 rfl hl (by decide) rfl (fun ls hl => ?_)
  refine k_ic (x := 0) hx hb dX3_lag_4 (by decide) ?_
  refine lv_istore_n (lv' := [(3, .int (nI 0)), (2, .int (nI 0)), (1, .int (nI 0)), (0, .ref (a 0))]) hx hb dX3_lag_5 rfl hl (by decide) rfl (fun ls hl => ?_)
  refine k_ic (x := 0) hx hb dX3_lag_6 (by decide) ?_
  refine lv_istore (lv' := [(4, .int (nI 0)), (3, .int (nI 0)), (2, .int (nI 0)), (1, .int (nI 0)), (0, .ref (a 0))]) hx hb dX3_lag_7 hl (by decide) rfl (fun ls hl => ?_)
  exact loop (s 1 0 0 + 1) 0 (by omega) (by omega) _ _ hP hS ls (lv_sub hl [0, 1, 2, 3, 4] rfl)
