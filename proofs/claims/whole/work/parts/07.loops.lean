/-- the tail acknowledges j updates, v + 1 the first -/
def ackN (s : CS) (p v : Nat) : Nat → CS
  | 0 => s
  | j + 1 => ackAt (ackN s p v j) p (v + j + 1)
theorem lput_c {s : CS} {i w v c i' k' : Nat} (h : c ≠ 10 ∧ c ≠ 11) : lput s i w v c i' k' = s c i' k' := by
  unfold lput
  split
  · rfl
  · unfold qput; split
    · simp [w3, h.1, h.2]
    · rfl
theorem ackAt_c {s : CS} {p v c i k : Nat} (h : c ≠ 10 ∧ c ≠ 11 ∧ c ≠ 6 ∧ c ≠ 4) : ackAt s p v c i k = s c i k := by
  have e : (if p + 1 = s 1 0 0 then w3 (w3 s 6 (s 0 0 p) 0 v) 4 0 0 v else w3 s 6 (s 0 0 p) 0 v) c i k = s c i k := by
    split <;> simp [w3, h.2.2.1, h.2.2.2]
  unfold ackAt
  split
  · rw [lput_c ⟨h.1, h.2.1⟩]; exact e
  · exact e
theorem ackN_c {s : CS} {p v c i k : Nat} (h : c ≠ 10 ∧ c ≠ 11 ∧ c ≠ 6 ∧ c ≠ 4) : ∀ j, ackN s p v j c i k = s c i k
  | 0 => rfl
  | j + 1 => by rw [ackN, ackAt_c h]; exact ackN_c h j
theorem Sh.an {n : Nat} {s : CS} (h : Sh n s) {p v : Nat} : ∀ {j : Nat}, v + j ≤ 40 → Sh n (ackN s p v j)
  | 0, _ => h
  | j + 1, hj => (h.an (j := j) (by omega)).aa (by omega)
/-- the chain without the failed of its first k -/
def tko (s : CS) : Nat → CS × Nat
  | 0 => (s, 0)
  | k + 1 => if s 7 (s 0 0 k) 0 = 0 then (w3 (tko s k).1 0 0 (tko s k).2 (s 0 0 k), (tko s k).2 + 1) else tko s k
theorem tko_le (s : CS) : ∀ k, (tko s k).2 ≤ k
  | 0 => Nat.le_refl 0
  | k + 1 => by have := tko_le s k; simp only [tko]; split <;> simp <;> omega
theorem tko_c {s : CS} {c i j : Nat} (h : c ≠ 0) : ∀ k, (tko s k).1 c i j = s c i j
  | 0 => rfl
  | k + 1 => by have := tko_c (s := s) (i := i) (j := j) h k; simp only [tko]; split; (simp [w3, h, this]); exact this
theorem tko_hi {s : CS} {j : Nat} : ∀ k, k ≤ j → (tko s k).1 0 0 j = s 0 0 j
  | 0, _ => rfl
  | k + 1, hk => by
    have h1 := tko_hi (s := s) (j := j) k (by omega); have h2 := tko_le s k
    simp only [tko]; split
    · simp only [w3]; rw [if_neg (by omega)]; exact h1
    · exact h1
theorem Sh.tk {n : Nat} {s : CS} (h : Sh n s) : ∀ {k : Nat}, k ≤ n → Sh n (tko s k).1
  | 0, _ => h
  | k + 1, hk => by
    have h1 := h.tk (k := k) (by omega)
    simp only [tko]; split
    · exact h1.m0 (h.ch k (by omega))
    · exact h1
def outS (s : CS) : CS := w3 (tko s (s 1 0 0)).1 1 0 0 (tko s (s 1 0 0)).2
set_option maxHeartbeats 4000000 in
set_option maxRecDepth 100000 in
/-- acknowledgeAllSentAtTail -/
theorem c_X3_acknowledgeAllSentAtTail (l : Launch) {g : GG} {a : Nat → Nat} {n : Nat} {A : Nat → Prop} (hA : Ap A a (5 + 7 * n)) (hn6 : n ≤ 6) {s : CS} (hs : Sh n s) (hle : s 6 (s 0 0 (s 1 0 0 - 1)) 0 ≤ s 5 (s 0 0 (s 1 0 0 - 1)) 0) : Met l yX3_acknowledgeAllSentAtTail wsX3_acknowledgeAllSentAtTail ({ frames := 3, cells := 0, slots := 0, locals := 64 }) (pC g [.ref (a 0)] (wC g a n s)) (qV g (wC g a n (ackN s (s 1 0 0 - 1) (s 6 (s 0 0 (s 1 0 0 - 1)) 0) (s 5 (s 0 0 (s 1 0 0 - 1)) 0 - s 6 (s 0 0 (s 1 0 0 - 1)) 0))) A) 0 0 A := by
  refine k_start (cc := cX3_acknowledgeAllSentAtTail) (maxL := 4) (ret := none) (by decide) rfl (Nat.le_of_ble_eq_true rfl) ?_
  intro pr en s0 m args below meth cd hx hb hml hr hlk hts hown hin hC hP ls hl
  have hS : va_S A s0.heap s0.heap [] := va_S.rf
  have hfx : CallFix pr m cd cX3_acknowledgeAllSentAtTail 4 s0 args wsX3_acknowledgeAllSentAtTail RX3 := ⟨hx, hb, hml, hown, hts⟩
  have hu3 : ∀ w ∈ wsX30, w.before args s0 = true := fun w h => hts w ((by decide +kernel : ∀ w ∈ wsX30, w ∈ wsX3_acknowledgeAllSentAtTail) w h)
  have hu1 : ∀ w ∈ wsX10, w.before args s0 = true := fun w h => hts w ((by decide +kernel : ∀ w ∈ wsX10, w ∈ wsX3_acknowledgeAllSentAtTail) w h)
  have hl : lv_has ls 4 [(0, .ref (a 0))] := hl
  have f0 := hs.len
  have f1 := hs.ch (s 1 0 0 - 1) (by omega)
  have f2 := hs.nd _ f1
  have loop : ∀ (d j : Nat), s 5 (s 0 0 (s 1 0 0 - 1)) 0 - s 6 (s 0 0 (s 1 0 0 - 1)) 0 + 1 ≤ j + d → j ≤ s 5 (s 0 0 (s 1 0 0 - 1)) 0 - s 6 (s 0 0 (s 1 0 0 - 1)) 0 → ∀ (H : Heap) (locs : List Loc), va_P g.1 vwCl (wC g a n (ackN s (s 1 0 0 - 1) (s 6 (s 0 0 (s 1 0 0 - 1)) 0) j)) H → va_S A s0.heap H locs → ∀ ls : Array Slot, lv_has ls 4 [(3, .int (nI (s 6 (s 0 0 (s 1 0 0 - 1)) 0 + j + 1))), (2, .ref (a (7 * (s 0 0 (s 1 0 0 - 1)) + 5))), (1, .int (nI (s 1 0 0 - 1))), (0, .ref (a 0))] → W pr l en ({ frames := 3, cells := 0, slots := 0, locals := 64 }) s0 m args below meth cd H locs 0 0 (MQ below (qV g (wC g a n (ackN s (s 1 0 0 - 1) (s 6 (s 0 0 (s 1 0 0 - 1)) 0) (s 5 (s 0 0 (s 1 0 0 - 1)) 0 - s 6 (s 0 0 (s 1 0 0 - 1)) 0))) A) args s0 0 0 A) (F0 m 20 ls []) := by
    intro d
    induction d with
    | zero => intro j h1 h2; exact absurd h1 (by omega)
    | succ d ih =>
      intro j h1 h2 H locs hP hS ls hl
      have e5 : (ackN s (s 1 0 0 - 1) (s 6 (s 0 0 (s 1 0 0 - 1)) 0) j) 5 (s 0 0 (s 1 0 0 - 1)) 0 = s 5 (s 0 0 (s 1 0 0 - 1)) 0 := ackN_c (by decide) j
      have e1 : (ackN s (s 1 0 0 - 1) (s 6 (s 0 0 (s 1 0 0 - 1)) 0) j) 1 0 0 = s 1 0 0 := ackN_c (by decide) j
      refine lv_iload_n hx hb dX3_acknowledgeAllSentAtTail_20 rfl (lv_at hl 0 rfl) ?_
      refine lv_aload_n hx hb dX3_acknowledgeAllSentAtTail_21 rfl (lv_at hl 1 rfl) ?_
      refine va_getN (D := g.1) (C := RX1) (T := TX1) (N := 5) (ci := 1) hx hb hu1 (fun _ h => h) hown hC.1 hP _ (wC_node (i := (s 0 0 (s 1 0 0 - 1))) (by omega)) rfl 2 (by decide) (hC.F (i := 52) (r := RX1) (n := "history") (d := "I") (by decide +kernel)) (fun _ h9 => h9) rfl dX3_acknowledgeAllSentAtTail_22 ?_
      refine k_icmp_gt (tgt := 40) hx hb dX3_acknowledgeAllSentAtTail_25 (by decide) (by omega) (by omega) (fun c25 => ?_) (fun c25 => ?_)
      · skip
        exact k_vret hx hb hr hlk (P_eq (congrArg (wC g a n) (by rw [show j = s 5 (s 0 0 (s 1 0 0 - 1)) 0 - s 6 (s 0 0 (s 1 0 0 - 1)) 0 by omega])) hP) hS dX3_acknowledgeAllSentAtTail_40
      · skip
        refine lv_aload_n hx hb dX3_acknowledgeAllSentAtTail_28 rfl (lv_at hl 3 rfl) ?_
        refine lv_iload_n hx hb dX3_acknowledgeAllSentAtTail_29 rfl (lv_at hl 2 rfl) ?_
        refine lv_iload_n hx hb dX3_acknowledgeAllSentAtTail_30 rfl (lv_at hl 0 rfl) ?_
        refine kV_v (w2 := wC g a n (ackAt (ackN s (s 1 0 0 - 1) (s 6 (s 0 0 (s 1 0 0 - 1)) 0) j) (s 1 0 0 - 1) (s 6 (s 0 0 (s 1 0 0 - 1)) 0 + j + 1))) (As := [.int (nI (s 1 0 0 - 1)), .int (nI (s 6 (s 0 0 (s 1 0 0 - 1)) 0 + j + 1))]) (b := a 0) (rest := []) (A1 := A) hfx (c_X3_acknowledgeAt l hA hn6 (s := (ackN s (s 1 0 0 - 1) (s 6 (s 0 0 (s 1 0 0 - 1)) 0) j)) (p := s 1 0 0 - 1) (v := s 6 (s 0 0 (s 1 0 0 - 1)) 0 + j + 1) (hs.an (by omega)) (by rw [e1]; omega) (by omega)) (cwV 2 hts gX3_acknowledgeAllSentAtTail_X3_acknowledgeAt rfl rfl rfl (by decide +kernel) ⟨by decide, by decide⟩) (va_recv hC.1 hP (ci := 3) rfl (wC_obj)) hC hP hS (fun _ h => h) rfl hl.1 rfl (Nat.le_of_ble_eq_true rfl) dX3_acknowledgeAllSentAtTail_31 ⟨Nat.le_of_ble_eq_true rfl, Nat.le_of_ble_eq_true rfl⟩ (fun H locs hP hS _ _ => ?_)
        refine lv_iinc (v := nI (s 6 (s 0 0 (s 1 0 0 - 1)) 0 + j + 1 + 1)) (lv' := [(3, .int (nI (s 6 (s 0 0 (s 1 0 0 - 1)) 0 + j + 1 + 1))), (2, .ref (a (7 * (s 0 0 (s 1 0 0 - 1)) + 5))), (1, .int (nI (s 1 0 0 - 1))), (0, .ref (a 0))]) hx hb dX3_acknowledgeAllSentAtTail_34 hl (k := 0) rfl (nI_add _ _) (by decide) rfl (fun ls hl => ?_)
        refine lv_goto (tgt := 20) hx hb dX3_acknowledgeAllSentAtTail_37 (by decide) ?_
        exact ih (j + 1) (by omega) (by omega) H locs hP hS ls (lv_sub hl [0, 1, 2, 3] rfl)
  refine lv_aload_n hx hb dX3_acknowledgeAllSentAtTail_0 rfl (lv_at hl 0 rfl) ?_
  refine va_get (D := g.1) (C := RX3) (T := TX3) (N := 6) (ci := 3) hx hb hu3 (fun _ h => h) hown hC.1 hP _ (wC_obj) rfl 2 (by decide) (hts (.fieldLink RX3 29 "SplicedChain" "chainLength" "I") (by decide +kernel)) (fun _ h9 => h9) rfl dX3_acknowledgeAllSentAtTail_1 ?_
  refine k_ic (x := 1) hx hb dX3_acknowledgeAllSentAtTail_4 (by decide) ?_
  refine k_isub (x := s 1 0 0) (y := 1) hx hb (by omega) dX3_acknowledgeAllSentAtTail_5 ?_
  refine lv_istore_n (lv' := [(1, .int (nI ((s 1 0 0) - 1))), (0, .ref (a 0))]) hx hb dX3_acknowledgeAllSentAtTail_6 rfl hl (by decide) rfl (fun ls hl => ?_)
  refine lv_aload_n hx hb dX3_acknowledgeAllSentAtTail_7 rfl (lv_at hl 1 rfl) ?_
  refine lv_iload_n hx hb dX3_acknowledgeAllSentAtTail_8 rfl (lv_at hl 0 rfl) ?_
  refine kV_r (r := a (7 * (s 0 0 ((s 1 0 0) - 1)) + 5)) (w2 := wC g a n s) (As := [.int (nI ((s 1 0 0) - 1))]) (b := a 0) (rest := []) (A1 := A) hfx (c_X3_nodeAt l hA hn6 (s := s) (p := (s 1 0 0) - 1) (x := s 0 0 ((s 1 0 0) - 1)) (rfl) (by omega) (by omega)) (cwV 1 hts gX3_acknowledgeAllSentAtTail_X3_nodeAt rfl rfl rfl (by decide +kernel) ⟨by decide, by decide⟩) (va_recv hC.1 hP (ci := 3) rfl (wC_obj)) hC hP hS (fun _ h => h) rfl hl.1 rfl (Nat.le_of_ble_eq_true rfl) dX3_acknowledgeAllSentAtTail_9 ⟨Nat.le_of_ble_eq_true rfl, Nat.le_of_ble_eq_true rfl⟩ (fun H locs hP hS _ _ => ?_)
  refine lv_astore_n (lv' := [(2, .ref (a (7 * (s 0 0 ((s 1 0 0) - 1)) + 5))), (1, .int (nI ((s 1 0 0) - 1))), (0, .ref (a 0))]) hx hb dX3_acknowledgeAllSentAtTail_12 rfl hl (by decide) rfl (fun ls hl => ?_)
  refine lv_aload_n hx hb dX3_acknowledgeAllSentAtTail_13 rfl (lv_at hl 0 rfl) ?_
  refine va_getN (D := g.1) (C := RX1) (T := TX1) (N := 5) (ci := 1) hx hb hu1 (fun _ h => h) hown hC.1 hP _ (wC_node (i := (s 0 0 ((s 1 0 0) - 1))) (by omega)) rfl 3 (by decide) (hC.F (i := 139) (r := RX1) (n := "acknowledged") (d := "I") (by decide +kernel)) (fun _ h9 => h9) rfl dX3_acknowledgeAllSentAtTail_14 ?_
  refine k_ic (x := 1) hx hb dX3_acknowledgeAllSentAtTail_17 (by decide) ?_
  refine k_iadd (x := s 6 ((s 0 0 ((s 1 0 0) - 1))) 0) (y := 1) hx hb dX3_acknowledgeAllSentAtTail_18 ?_
  refine lv_istore_n (lv' := [(3, .int (nI ((s 6 ((s 0 0 ((s 1 0 0) - 1))) 0) + 1))), (2, .ref (a (7 * (s 0 0 ((s 1 0 0) - 1)) + 5))), (1, .int (nI ((s 1 0 0) - 1))), (0, .ref (a 0))]) hx hb dX3_acknowledgeAllSentAtTail_19 rfl hl (by decide) rfl (fun ls hl => ?_)
  exact loop (s 5 (s 0 0 (s 1 0 0 - 1)) 0 - s 6 (s 0 0 (s 1 0 0 - 1)) 0 + 1) 0 (by omega) (by omega) _ _ hP hS ls (lv_sub hl [0, 1, 2, 3] rfl)
set_option maxHeartbeats 4000000 in
set_option maxRecDepth 100000 in
/-- takeOutFailed -/
theorem c_X3_takeOutFailed (l : Launch) {g : GG} {a : Nat → Nat} {n : Nat} {A : Nat → Prop} (hA : Ap A a (5 + 7 * n)) (hn6 : n ≤ 6) {s : CS} (hs : Sh n s) : Met l yX3_takeOutFailed wsX3_takeOutFailed ({ frames := 1, cells := 0, slots := 0, locals := 21 }) (pC g [.ref (a 0)] (wC g a n s)) (qV g (wC g a n (outS s)) A) 0 0 A := by
  refine k_start (cc := cX3_takeOutFailed) (maxL := 3) (ret := none) (by decide) rfl (Nat.le_of_ble_eq_true rfl) ?_
  intro pr en s0 m args below meth cd hx hb hml hr hlk hts hown hin hC hP ls hl
  have hS : va_S A s0.heap s0.heap [] := va_S.rf
  have hfx : CallFix pr m cd cX3_takeOutFailed 3 s0 args wsX3_takeOutFailed RX3 := ⟨hx, hb, hml, hown, hts⟩
  have hu3 : ∀ w ∈ wsX30, w.before args s0 = true := fun w h => hts w ((by decide +kernel : ∀ w ∈ wsX30, w ∈ wsX3_takeOutFailed) w h)
  have hu1 : ∀ w ∈ wsX10, w.before args s0 = true := fun w h => hts w ((by decide +kernel : ∀ w ∈ wsX10, w ∈ wsX3_takeOutFailed) w h)
  have hl : lv_has ls 3 [(0, .ref (a 0))] := hl
  have f0 := hs.len
  have loop : ∀ (d k : Nat), s 1 0 0 + 1 ≤ k + d → k ≤ s 1 0 0 → ∀ (H : Heap) (locs : List Loc), va_P g.1 vwCl (wC g a n (tko s k).1) H → va_S A s0.heap H locs → ∀ ls : Array Slot, lv_has ls 3 [(2, .int (nI k)), (1, .int (nI (tko s k).2)), (0, .ref (a 0))] → W pr l en ({ frames := 1, cells := 0, slots := 0, locals := 21 }) s0 m args below meth cd H locs 0 0 (MQ below (qV g (wC g a n (outS s)) A) args s0 0 0 A) (F0 m 4 ls []) := by
    intro d
    induction d with
    | zero => intro k h1 h2; exact absurd h1 (by omega)
    | succ d ih =>
      intro k h1 h2 H locs hP hS ls hl
      have e1 : (tko s k).1 1 0 0 = s 1 0 0 := tko_c (by decide) k
      have e0 : (tko s k).1 0 0 k = s 0 0 k := tko_hi k (Nat.le_refl k)
      have e7 : (tko s k).1 7 (s 0 0 k) 0 = s 7 (s 0 0 k) 0 := tko_c (by decide) k
      have e2 := tko_le s k
      refine lv_iload_n hx hb dX3_takeOutFailed_4 rfl (lv_at hl 0 rfl) ?_
      refine lv_aload_n hx hb dX3_takeOutFailed_5 rfl (lv_at hl 2 rfl) ?_
      refine va_get (D := g.1) (C := RX3) (T := TX3) (N := 6) (ci := 3) hx hb hu3 (fun _ h => h) hown hC.1 hP _ (wC_obj) rfl 2 (by decide) (hts (.fieldLink RX3 29 "SplicedChain" "chainLength" "I") (by decide +kernel)) (fun _ h9 => h9) rfl dX3_takeOutFailed_6 ?_
      refine k_icmp_ge (tgt := 44) hx hb dX3_takeOutFailed_9 (by decide) (by omega) (by omega) (fun c9 => ?_) (fun c9 => ?_)
      · skip
        have ek : k = s 1 0 0 := by omega
        refine lv_aload_n hx hb dX3_takeOutFailed_44 rfl (lv_at hl 2 rfl) ?_
        refine lv_iload_n hx hb dX3_takeOutFailed_45 rfl (lv_at hl 1 rfl) ?_
        refine va_put (D := g.1) (v := .int (nI ((tko s k).2))) (ty := .int) (C := RX3) (T := TX3) (N := 6) (ci := 3) hx hb hu3 (fun _ h => h) tyX3 tyX3_ok nmX3 hown hC.1 hP hA.D hS _ (wC_obj) rfl 2 (by decide) (hts (.fieldLink RX3 29 "SplicedChain" "chainLength" "I") (by decide +kernel)) (fun _ h9 => h9) rfl (by decide +kernel) rfl rfl (Nat.le_of_ble_eq_true rfl) dX3_takeOutFailed_46 (fun H locs hP _ hS => ?_)
        have hP : va_P g.1 vwCl (wC g a n (w3 (tko s k).1 1 0 0 ((tko s k).2))) H := P_eq wp_len hP
        exact k_vret hx hb hr hlk (P_eq (congrArg (wC g a n) (by unfold outS; rw [← ek])) hP) hS dX3_takeOutFailed_49
      · skip
        have f1 := hs.ch k (by omega)
        have f2 := hs.nd _ f1
        refine lv_aload_n hx hb dX3_takeOutFailed_12 rfl (lv_at hl 2 rfl) ?_
        refine lv_iload_n hx hb dX3_takeOutFailed_13 rfl (lv_at hl 0 rfl) ?_
        refine kV_r (r := a (7 * (s 0 0 k) + 5)) (w2 := wC g a n (tko s k).1) (As := [.int (nI k)]) (b := a 0) (rest := []) (A1 := A) hfx (c_X3_nodeAt l hA hn6 (s := (tko s k).1) (p := k) (x := s 0 0 k) (e0) (by omega) (by omega)) (cwV 1 hts gX3_takeOutFailed_X3_nodeAt rfl rfl rfl (by decide +kernel) ⟨by decide, by decide⟩) (va_recv hC.1 hP (ci := 3) rfl (wC_obj)) hC hP hS (fun _ h => h) rfl hl.1 rfl (Nat.le_of_ble_eq_true rfl) dX3_takeOutFailed_14 ⟨Nat.le_of_ble_eq_true rfl, Nat.le_of_ble_eq_true rfl⟩ (fun H locs hP hS _ _ => ?_)
        refine va_getN (D := g.1) (C := RX1) (T := TX1) (N := 5) (ci := 1) hx hb hu1 (fun _ h => h) hown hC.1 hP _ (wC_node (i := (s 0 0 k)) (by omega)) rfl 4 (by decide) (hC.F (i := 48) (r := RX1) (n := "failed") (d := "Z") (by decide +kernel)) (fun _ h9 => h9) rfl dX3_takeOutFailed_17 ?_
        refine k_if_ne (tgt := 38) hx hb dX3_takeOutFailed_20 (by decide) (by omega) (fun c20 => ?_) (fun c20 => ?_)
        · skip
          have z7 : ¬ s 7 (s 0 0 k) 0 = 0 := by omega
          refine lv_iinc (v := nI (k + 1)) (lv' := [(2, .int (nI (k + 1))), (1, .int (nI ((tko s k).2))), (0, .ref (a 0))]) hx hb dX3_takeOutFailed_38 hl (k := 0) rfl (nI_add _ _) (by decide) rfl (fun ls hl => ?_)
          refine lv_goto (tgt := 4) hx hb dX3_takeOutFailed_41 (by decide) ?_
          exact ih (k + 1) (by omega) (by omega) H locs (by rw [show (tko s (k + 1)).1 = (tko s k).1 by simp [tko, z7]]; exact hP) hS ls (by rw [show (tko s (k + 1)).2 = (tko s k).2 by simp [tko, z7]]; exact lv_sub hl [0, 1, 2] rfl)
        · skip
          have z7 : s 7 (s 0 0 k) 0 = 0 := by omega
          refine lv_aload_n hx hb dX3_takeOutFailed_23 rfl (lv_at hl 2 rfl) ?_
          refine va_get (D := g.1) (C := RX3) (T := TX3) (N := 6) (ci := 3) hx hb hu3 (fun _ h => h) hown hC.1 hP _ (wC_obj) rfl 1 (by decide) (hts (.fieldLink RX3 26 "SplicedChain" "chain" "[I") (by decide +kernel)) (fun _ h9 => h9) rfl dX3_takeOutFailed_24 ?_
          refine lv_iload_n hx hb dX3_takeOutFailed_27 rfl (lv_at hl 1 rfl) ?_
          refine lv_aload_n hx hb dX3_takeOutFailed_28 rfl (lv_at hl 2 rfl) ?_
          refine va_get (D := g.1) (C := RX3) (T := TX3) (N := 6) (ci := 3) hx hb hu3 (fun _ h => h) hown hC.1 hP _ (wC_obj) rfl 1 (by decide) (hts (.fieldLink RX3 26 "SplicedChain" "chain" "[I") (by decide +kernel)) (fun _ h9 => h9) rfl dX3_takeOutFailed_29 ?_
          refine lv_iload_n hx hb dX3_takeOutFailed_32 rfl (lv_at hl 0 rfl) ?_
          refine k_iald hx hb hC hP _ (wC_chain) (j := k) (by omega) (by omega) dX3_takeOutFailed_33 ?_
          refine k_iast hx hb hC hP hA.D hS _ (wC_chain) (j := (tko s k).2) (by omega) (by omega) dX3_takeOutFailed_34 wp_chain (fun H locs hP hS => ?_)
          refine lv_iinc (v := nI ((tko s k).2 + 1)) (lv' := [(1, .int (nI ((tko s k).2 + 1))), (2, .int (nI k)), (0, .ref (a 0))]) hx hb dX3_takeOutFailed_35 hl (k := 1) rfl (nI_add _ _) (by decide) rfl (fun ls hl => ?_)
          refine lv_iinc (v := nI (k + 1)) (lv' := [(2, .int (nI (k + 1))), (1, .int (nI ((tko s k).2 + 1))), (0, .ref (a 0))]) hx hb dX3_takeOutFailed_38 hl (k := 1) rfl (nI_add _ _) (by decide) rfl (fun ls hl => ?_)
          refine lv_goto (tgt := 4) hx hb dX3_takeOutFailed_41 (by decide) ?_
          exact ih (k + 1) (by omega) (by omega) H locs (by rw [show (tko s (k + 1)).1 = w3 (tko s k).1 0 0 (tko s k).2 (s 0 0 k) by simp [tko, z7]]; rw [e0] at hP; exact hP) hS ls (by rw [show (tko s (k + 1)).2 = (tko s k).2 + 1 by simp [tko, z7]]; exact lv_sub hl [0, 1, 2] rfl)
  refine k_ic (x := 0) hx hb dX3_takeOutFailed_0 (by decide) ?_
  refine lv_istore_n (lv' := [(1, .int (nI 0)), (0, .ref (a 0))]) hx hb dX3_takeOutFailed_1 rfl hl (by decide) rfl (fun ls hl => ?_)
  refine k_ic (x := 0) hx hb dX3_takeOutFailed_2 (by decide) ?_
  refine lv_istore_n (lv' := [(2, .int (nI 0)), (1, .int (nI 0)), (0, .ref (a 0))]) hx hb dX3_takeOutFailed_3 rfl hl (by decide) rfl (fun ls hl => ?_)
  exact loop (s 1 0 0 + 1) 0 (by omega) (by omega) _ _ hP hS ls (lv_sub hl [0, 1, 2] rfl)
set_option maxHeartbeats 4000000 in
set_option maxRecDepth 100000 in
/-- tail -/
theorem c_X3_tail (l : Launch) {g : GG} {a : Nat → Nat} {n : Nat} {A : Nat → Prop} (hA : Ap A a (5 + 7 * n)) (hn6 : n ≤ 6) {s : CS} {L : Nat} (hL : s 1 0 0 = L) (hL1 : 1 ≤ L ∧ L ≤ n) : Met l yX3_tail wsX3_tail ({ frames := 0, cells := 0, slots := 0, locals := 0 }) (pC g [.ref (a 0)] (wC g a n s)) (qI g (nI (s 0 0 (L - 1))) (wC g a n s) A) 0 0 A := by
  refine k_start (cc := cX3_tail) (maxL := 1) (ret := (some .int)) (by decide) rfl (Nat.le_of_ble_eq_true rfl) ?_
  intro pr en s0 m args below meth cd hx hb hml hr hlk hts hown hin hC hP ls hl
  have hS : va_S A s0.heap s0.heap [] := va_S.rf
  have hfx : CallFix pr m cd cX3_tail 1 s0 args wsX3_tail RX3 := ⟨hx, hb, hml, hown, hts⟩
  have hu3 : ∀ w ∈ wsX30, w.before args s0 = true := fun w h => hts w ((by decide +kernel : ∀ w ∈ wsX30, w ∈ wsX3_tail) w h)
  have hl : lv_has ls 1 [(0, .ref (a 0))] := hl
  subst hL
  refine lv_aload_n hx hb dX3_tail_0 rfl (lv_at hl 0 rfl) ?_
  refine va_get (D := g.1) (C := RX3) (T := TX3) (N := 6) (ci := 3) hx hb hu3 (fun _ h => h) hown hC.1 hP _ (wC_obj) rfl 1 (by decide) (hts (.fieldLink RX3 26 "SplicedChain" "chain" "[I") (by decide +kernel)) (fun _ h9 => h9) rfl dX3_tail_1 ?_
  refine lv_aload_n hx hb dX3_tail_4 rfl (lv_at hl 0 rfl) ?_
  refine va_get (D := g.1) (C := RX3) (T := TX3) (N := 6) (ci := 3) hx hb hu3 (fun _ h => h) hown hC.1 hP _ (wC_obj) rfl 2 (by decide) (hts (.fieldLink RX3 29 "SplicedChain" "chainLength" "I") (by decide +kernel)) (fun _ h9 => h9) rfl dX3_tail_5 ?_
  refine k_ic (x := 1) hx hb dX3_tail_8 (by decide) ?_
  refine k_isub (x := s 1 0 0) (y := 1) hx hb (by omega) dX3_tail_9 ?_
  refine k_iald hx hb hC hP _ (wC_chain) (j := (s 1 0 0) - 1) (by omega) (by omega) dX3_tail_10 ?_
  exact k_iret hx hb hr hlk (by rfl) hP hS dX3_tail_11
set_option maxHeartbeats 4000000 in
set_option maxRecDepth 100000 in
/-- head -/
theorem c_X3_head (l : Launch) {g : GG} {a : Nat → Nat} {n : Nat} {A : Nat → Prop} (hA : Ap A a (5 + 7 * n)) (hn6 : n ≤ 6) {s : CS} (hn1 : 1 ≤ n) : Met l yX3_head wsX3_head ({ frames := 0, cells := 0, slots := 0, locals := 0 }) (pC g [.ref (a 0)] (wC g a n s)) (qI g (nI (s 0 0 0)) (wC g a n s) A) 0 0 A := by
  refine k_start (cc := cX3_head) (maxL := 1) (ret := (some .int)) (by decide) rfl (Nat.le_of_ble_eq_true rfl) ?_
  intro pr en s0 m args below meth cd hx hb hml hr hlk hts hown hin hC hP ls hl
  have hS : va_S A s0.heap s0.heap [] := va_S.rf
  have hfx : CallFix pr m cd cX3_head 1 s0 args wsX3_head RX3 := ⟨hx, hb, hml, hown, hts⟩
  have hu3 : ∀ w ∈ wsX30, w.before args s0 = true := fun w h => hts w ((by decide +kernel : ∀ w ∈ wsX30, w ∈ wsX3_head) w h)
  have hl : lv_has ls 1 [(0, .ref (a 0))] := hl
  refine lv_aload_n hx hb dX3_head_0 rfl (lv_at hl 0 rfl) ?_
  refine va_get (D := g.1) (C := RX3) (T := TX3) (N := 6) (ci := 3) hx hb hu3 (fun _ h => h) hown hC.1 hP _ (wC_obj) rfl 1 (by decide) (hts (.fieldLink RX3 26 "SplicedChain" "chain" "[I") (by decide +kernel)) (fun _ h9 => h9) rfl dX3_head_1 ?_
  refine k_ic (x := 0) hx hb dX3_head_4 (by decide) ?_
  refine k_iald hx hb hC hP _ (wC_chain) (j := 0) (by omega) (by omega) dX3_head_5 ?_
  exact k_iret hx hb hr hlk (by rfl) hP hS dX3_head_6
set_option maxHeartbeats 4000000 in
set_option maxRecDepth 100000 in
/-- replied -/
theorem c_X3_replied (l : Launch) {g : GG} {a : Nat → Nat} {n : Nat} {A : Nat → Prop} (hA : Ap A a (5 + 7 * n)) (hn6 : n ≤ 6) {s : CS} {x : Int32}  : Met l yX3_replied wsX3_replied ({ frames := 0, cells := 0, slots := 0, locals := 0 }) (pC g [.ref (a 0), .int (x)] (wC g a n s)) (qI g (nI (if 1 ≤ x ∧ x ≤ nI (s 4 0 0) then 1 else 0)) (wC g a n s) A) 0 0 A := by
  refine k_start (cc := cX3_replied) (maxL := 2) (ret := (some .boolean)) (by decide) rfl (Nat.le_of_ble_eq_true rfl) ?_
  intro pr en s0 m args below meth cd hx hb hml hr hlk hts hown hin hC hP ls hl
  have hS : va_S A s0.heap s0.heap [] := va_S.rf
  have hfx : CallFix pr m cd cX3_replied 2 s0 args wsX3_replied RX3 := ⟨hx, hb, hml, hown, hts⟩
  have hu3 : ∀ w ∈ wsX30, w.before args s0 = true := fun w h => hts w ((by decide +kernel : ∀ w ∈ wsX30, w ∈ wsX3_replied) w h)
  have hl : lv_has ls 2 [(0, .ref (a 0)), (1, .int (x))] := hl
  refine lv_iload_n hx hb dX3_replied_0 rfl (lv_at hl 1 rfl) ?_
  refine k_ic (x := 1) hx hb dX3_replied_1 (by decide) ?_
  refine lv_icmp_lt (tgt := 17) hx hb dX3_replied_2 (by decide) (fun c2 => ?_) (fun c2 => ?_)
  · skip
    have f1 : ¬ (1 ≤ x ∧ x ≤ nI (s 4 0 0)) := fun q => absurd q.1 (Int32.not_le.mpr c2)
    refine k_ic (x := 0) hx hb dX3_replied_17 (by decide) ?_
    exact k_zret hx hb hr hlk (by first | rw [if_pos f1] | rw [if_neg f1]) (by decide) hP hS dX3_replied_18
  · skip
    refine lv_iload_n hx hb dX3_replied_5 rfl (lv_at hl 1 rfl) ?_
    refine lv_aload_n hx hb dX3_replied_6 rfl (lv_at hl 0 rfl) ?_
    refine va_get (D := g.1) (C := RX3) (T := TX3) (N := 6) (ci := 3) hx hb hu3 (fun _ h => h) hown hC.1 hP _ (wC_obj) rfl 5 (by decide) (hts (.fieldLink RX3 16 "SplicedChain" "replies" "I") (by decide +kernel)) (fun _ h9 => h9) rfl dX3_replied_7 ?_
    refine lv_icmp_gt (tgt := 17) hx hb dX3_replied_10 (by decide) (fun c10 => ?_) (fun c10 => ?_)
    · skip
      have f1 : ¬ (1 ≤ x ∧ x ≤ nI (s 4 0 0)) := fun q => absurd q.2 (Int32.not_le.mpr c10)
      refine k_ic (x := 0) hx hb dX3_replied_17 (by decide) ?_
      exact k_zret hx hb hr hlk (by first | rw [if_pos f1] | rw [if_neg f1]) (by decide) hP hS dX3_replied_18
    · skip
      have f1 : 1 ≤ x ∧ x ≤ nI (s 4 0 0) := ⟨Int32.not_lt.mp c2, Int32.not_lt.mp c10⟩
      refine k_ic (x := 1) hx hb dX3_replied_13 (by decide) ?_
      refine lv_goto (tgt := 18) hx hb dX3_replied_14 (by decide) ?_
      exact k_zret hx hb hr hlk (by first | rw [if_pos f1] | rw [if_neg f1]) (by decide) hP hS dX3_replied_18
