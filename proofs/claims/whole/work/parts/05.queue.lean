/-! WHAT THE METHODS DO TO THE STATE -/
def qput (s : CS) (q v : Nat) : CS := if s 10 q 0 < 40 then w3 (w3 s 11 q ((s 9 q 0 + s 10 q 0) % 40) v) 10 q 0 (s 10 q 0 + 1) else s
def qtake (s : CS) (q : Nat) : CS := w3 (w3 s 9 q 0 ((s 9 q 0 + 1) % 40)) 10 q 0 (s 10 q 0 - 1)
def lput (s : CS) (i w v : Nat) : CS := if s 8 i 0 = 0 then s else qput s (2 * i + w) v
def lclose (s : CS) (i : Nat) : CS := w3 (w3 (w3 s 8 i 0 0) 10 (2 * i + 0) 0 0) 10 (2 * i + 1) 0 0
set_option maxHeartbeats 4000000 in
set_option maxRecDepth 100000 in
/-- Queue.put -/
theorem c_X2_put (l : Launch) {g : GG} {a : Nat → Nat} {n : Nat} {A : Nat → Prop} (hA : Ap A a (5 + 7 * n)) (hn6 : n ≤ 6) {s : CS} {i w v : Nat} (hi : i < n) (hw : w < 2) (h9 : s 9 (2 * i + w) 0 < 40) (h10 : s 10 (2 * i + w) 0 ≤ 40) : Met l yX2_put wsX2_put ({ frames := 0, cells := 0, slots := 0, locals := 0 }) (pC g [.ref (a (7 * i + 8 + 2 * w)), .int (nI v)] (wC g a n s)) (qV g (wC g a n (qput s (2 * i + w) v)) A) 0 0 A := by
  refine k_start (cc := cX2_put) (maxL := 2) (ret := none) (by decide) rfl (Nat.le_of_ble_eq_true rfl) ?_
  intro p e s0 m args below meth c hx hb hml hr hlk hts hown hin hC hP ls hl
  have hS : va_S A s0.heap s0.heap [] := va_S.rf
  have hfx : CallFix p m c cX2_put 2 s0 args wsX2_put RX2 := ⟨hx, hb, hml, hown, hts⟩
  have hu2 : ∀ w ∈ wsX20, w.before args s0 = true := fun w h => hts w ((by decide +kernel : ∀ w ∈ wsX20, w ∈ wsX2_put) w h)
  have hl : lv_has ls 2 [(0, .ref (a (7 * i + 8 + 2 * w))), (1, .int (nI v))] := hl
  refine lv_aload_n hx hb dX2_put_0 rfl (lv_at hl 0 rfl) ?_
  refine va_get (D := g.1) (C := RX2) (T := TX2) (N := 3) (ci := 2) hx hb hu2 (fun _ h => h) hown hC.1 hP _ (wC_q (i := i) (w := w) (by omega) hw) rfl 2 (by decide) (hts (.fieldLink RX2 19 "SplicedChain$Queue" "size" "I") (by decide +kernel)) (fun _ h9 => h9) rfl dX2_put_1 ?_
  refine k_bi (x := 40) hx hb dX2_put_4 (by decide) ?_
  refine k_icmp_ge (tgt := 37) hx hb dX2_put_6 (by decide) (by omega) (by omega) (fun c6 => ?_) (fun c6 => ?_)
  · skip
    exact k_vret hx hb hr hlk (P_eq (congrArg (wC g a n) (by simp [qput]; omega)) hP) hS dX2_put_37
  · skip
    refine lv_aload_n hx hb dX2_put_9 rfl (lv_at hl 0 rfl) ?_
    refine va_get (D := g.1) (C := RX2) (T := TX2) (N := 3) (ci := 2) hx hb hu2 (fun _ h => h) hown hC.1 hP _ (wC_q (i := i) (w := w) (by omega) hw) rfl 0 (by decide) (hts (.fieldLink RX2 9 "SplicedChain$Queue" "numbers" "[I") (by decide +kernel)) (fun _ h9 => h9) rfl dX2_put_10 ?_
    refine lv_aload_n hx hb dX2_put_13 rfl (lv_at hl 0 rfl) ?_
    refine va_get (D := g.1) (C := RX2) (T := TX2) (N := 3) (ci := 2) hx hb hu2 (fun _ h => h) hown hC.1 hP _ (wC_q (i := i) (w := w) (by omega) hw) rfl 1 (by decide) (hts (.fieldLink RX2 15 "SplicedChain$Queue" "first" "I") (by decide +kernel)) (fun _ h9 => h9) rfl dX2_put_14 ?_
    refine lv_aload_n hx hb dX2_put_17 rfl (lv_at hl 0 rfl) ?_
    refine va_get (D := g.1) (C := RX2) (T := TX2) (N := 3) (ci := 2) hx hb hu2 (fun _ h => h) hown hC.1 hP _ (wC_q (i := i) (w := w) (by omega) hw) rfl 2 (by decide) (hts (.fieldLink RX2 19 "SplicedChain$Queue" "size" "I") (by decide +kernel)) (fun _ h9 => h9) rfl dX2_put_18 ?_
    refine k_iadd (x := s 9 ((2 * i + w)) 0) (y := s 10 ((2 * i + w)) 0) hx hb dX2_put_21 ?_
    refine k_bi (x := 40) hx hb dX2_put_22 (by decide) ?_
    refine k_irem (x := (s 9 ((2 * i + w)) 0) + (s 10 ((2 * i + w)) 0)) (y := 40) hx hb (by omega) (by omega) (by omega) dX2_put_24 ?_
    refine lv_iload_n hx hb dX2_put_25 rfl (lv_at hl 1 rfl) ?_
    refine k_iast hx hb hC hP hA.D hS _ (wC_row (i := i) (w := w) (by omega) hw) (j := ((s 9 ((2 * i + w)) 0) + (s 10 ((2 * i + w)) 0)) % 40) (by omega) (by omega) dX2_put_26 (wp_row (i := i) (w := w) hw) (fun H locs hP hS => ?_)
    refine lv_aload_n hx hb dX2_put_27 rfl (lv_at hl 0 rfl) ?_
    refine lv_dup hx hb dX2_put_28 rfl ?_
    refine va_get (D := g.1) (C := RX2) (T := TX2) (N := 3) (ci := 2) hx hb hu2 (fun _ h => h) hown hC.1 hP _ (wC_q (i := i) (w := w) (by omega) hw) rfl 2 (by decide) (hts (.fieldLink RX2 19 "SplicedChain$Queue" "size" "I") (by decide +kernel)) (fun _ h9 => h9) rfl dX2_put_29 ?_
    refine k_as (x := s 10 ((2 * i + w)) 0) (by simp [w3]) ?_
    refine k_ic (x := 1) hx hb dX2_put_32 (by decide) ?_
    refine k_iadd (x := s 10 ((2 * i + w)) 0) (y := 1) hx hb dX2_put_33 ?_
    refine va_put (D := g.1) (v := .int (nI ((s 10 ((2 * i + w)) 0) + 1))) (ty := .int) (C := RX2) (T := TX2) (N := 3) (ci := 2) hx hb hu2 (fun _ h => h) tyX2 tyX2_ok nmX2 hown hC.1 hP hA.D hS _ (wC_q (i := i) (w := w) (by omega) hw) rfl 2 (by decide) (hts (.fieldLink RX2 19 "SplicedChain$Queue" "size" "I") (by decide +kernel)) (fun _ h9 => h9) rfl (by decide +kernel) rfl rfl (Nat.le_of_ble_eq_true rfl) dX2_put_34 (fun H locs hP _ hS => ?_)
    have hP : va_P g.1 vwCl (wC g a n (w3 (w3 s 11 ((2 * i + w)) (((s 9 ((2 * i + w)) 0) + (s 10 ((2 * i + w)) 0)) % 40) v) 10 ((2 * i + w)) 0 ((s 10 ((2 * i + w)) 0) + 1))) H := P_eq (wp_size (i := i) (w := w) hw) hP
    exact k_vret hx hb hr hlk (P_eq (congrArg (wC g a n) (by simp [qput]; omega)) hP) hS dX2_put_37
set_option maxHeartbeats 4000000 in
set_option maxRecDepth 100000 in
/-- Queue.take -/
theorem c_X2_take (l : Launch) {g : GG} {a : Nat → Nat} {n : Nat} {A : Nat → Prop} (hA : Ap A a (5 + 7 * n)) (hn6 : n ≤ 6) {s : CS} {i w : Nat} (hi : i < n) (hw : w < 2) (h9 : s 9 (2 * i + w) 0 < 40) (h10 : 0 < s 10 (2 * i + w) 0) : Met l yX2_take wsX2_take ({ frames := 0, cells := 0, slots := 0, locals := 0 }) (pC g [.ref (a (7 * i + 8 + 2 * w))] (wC g a n s)) (qI g (nI (s 11 (2 * i + w) (s 9 (2 * i + w) 0))) (wC g a n (qtake s (2 * i + w))) A) 0 0 A := by
  refine k_start (cc := cX2_take) (maxL := 2) (ret := (some .int)) (by decide) rfl (Nat.le_of_ble_eq_true rfl) ?_
  intro p e s0 m args below meth c hx hb hml hr hlk hts hown hin hC hP ls hl
  have hS : va_S A s0.heap s0.heap [] := va_S.rf
  have hfx : CallFix p m c cX2_take 2 s0 args wsX2_take RX2 := ⟨hx, hb, hml, hown, hts⟩
  have hu2 : ∀ w ∈ wsX20, w.before args s0 = true := fun w h => hts w ((by decide +kernel : ∀ w ∈ wsX20, w ∈ wsX2_take) w h)
  have hl : lv_has ls 2 [(0, .ref (a (7 * i + 8 + 2 * w)))] := hl
  refine lv_aload_n hx hb dX2_take_0 rfl (lv_at hl 0 rfl) ?_
  refine va_get (D := g.1) (C := RX2) (T := TX2) (N := 3) (ci := 2) hx hb hu2 (fun _ h => h) hown hC.1 hP _ (wC_q (i := i) (w := w) (by omega) hw) rfl 0 (by decide) (hts (.fieldLink RX2 9 "SplicedChain$Queue" "numbers" "[I") (by decide +kernel)) (fun _ h9 => h9) rfl dX2_take_1 ?_
  refine lv_aload_n hx hb dX2_take_4 rfl (lv_at hl 0 rfl) ?_
  refine va_get (D := g.1) (C := RX2) (T := TX2) (N := 3) (ci := 2) hx hb hu2 (fun _ h => h) hown hC.1 hP _ (wC_q (i := i) (w := w) (by omega) hw) rfl 1 (by decide) (hts (.fieldLink RX2 15 "SplicedChain$Queue" "first" "I") (by decide +kernel)) (fun _ h9 => h9) rfl dX2_take_5 ?_
  refine k_iald hx hb hC hP _ (wC_row (i := i) (w := w) (by omega) hw) (j := s 9 ((2 * i + w)) 0) (by omega) (by omega) dX2_take_8 ?_
  refine lv_istore_n (lv' := [(1, .int (nI (s 11 ((2 * i + w)) (s 9 ((2 * i + w)) 0)))), (0, .ref (a (7 * i + 8 + 2 * w)))]) hx hb dX2_take_9 rfl hl (by decide) rfl (fun ls hl => ?_)
  refine lv_aload_n hx hb dX2_take_10 rfl (lv_at hl 1 rfl) ?_
  refine lv_aload_n hx hb dX2_take_11 rfl (lv_at hl 1 rfl) ?_
  refine va_get (D := g.1) (C := RX2) (T := TX2) (N := 3) (ci := 2) hx hb hu2 (fun _ h => h) hown hC.1 hP _ (wC_q (i := i) (w := w) (by omega) hw) rfl 1 (by decide) (hts (.fieldLink RX2 15 "SplicedChain$Queue" "first" "I") (by decide +kernel)) (fun _ h9 => h9) rfl dX2_take_12 ?_
  refine k_ic (x := 1) hx hb dX2_take_15 (by decide) ?_
  refine k_iadd (x := s 9 ((2 * i + w)) 0) (y := 1) hx hb dX2_take_16 ?_
  refine k_bi (x := 40) hx hb dX2_take_17 (by decide) ?_
  refine k_irem (x := (s 9 ((2 * i + w)) 0) + 1) (y := 40) hx hb (by omega) (by omega) (by omega) dX2_take_19 ?_
  refine va_put (D := g.1) (v := .int (nI (((s 9 ((2 * i + w)) 0) + 1) % 40))) (ty := .int) (C := RX2) (T := TX2) (N := 3) (ci := 2) hx hb hu2 (fun _ h => h) tyX2 tyX2_ok nmX2 hown hC.1 hP hA.D hS _ (wC_q (i := i) (w := w) (by omega) hw) rfl 1 (by decide) (hts (.fieldLink RX2 15 "SplicedChain$Queue" "first" "I") (by decide +kernel)) (fun _ h9 => h9) rfl (by decide +kernel) rfl rfl (Nat.le_of_ble_eq_true rfl) dX2_take_20 (fun H locs hP _ hS => ?_)
  have hP : va_P g.1 vwCl (wC g a n (w3 s 9 ((2 * i + w)) 0 (((s 9 ((2 * i + w)) 0) + 1) % 40))) H := P_eq (wp_first (i := i) (w := w) hw) hP
  refine lv_aload_n hx hb dX2_take_23 rfl (lv_at hl 1 rfl) ?_
  refine lv_dup hx hb dX2_take_24 rfl ?_
  refine va_get (D := g.1) (C := RX2) (T := TX2) (N := 3) (ci := 2) hx hb hu2 (fun _ h => h) hown hC.1 hP _ (wC_q (i := i) (w := w) (by omega) hw) rfl 2 (by decide) (hts (.fieldLink RX2 19 "SplicedChain$Queue" "size" "I") (by decide +kernel)) (fun _ h9 => h9) rfl dX2_take_25 ?_
  refine k_as (x := s 10 ((2 * i + w)) 0) (by simp [w3]) ?_
  refine k_ic (x := 1) hx hb dX2_take_28 (by decide) ?_
  refine k_isub (x := s 10 ((2 * i + w)) 0) (y := 1) hx hb (by omega) dX2_take_29 ?_
  refine va_put (D := g.1) (v := .int (nI ((s 10 ((2 * i + w)) 0) - 1))) (ty := .int) (C := RX2) (T := TX2) (N := 3) (ci := 2) hx hb hu2 (fun _ h => h) tyX2 tyX2_ok nmX2 hown hC.1 hP hA.D hS _ (wC_q (i := i) (w := w) (by omega) hw) rfl 2 (by decide) (hts (.fieldLink RX2 19 "SplicedChain$Queue" "size" "I") (by decide +kernel)) (fun _ h9 => h9) rfl (by decide +kernel) rfl rfl (Nat.le_of_ble_eq_true rfl) dX2_take_30 (fun H locs hP _ hS => ?_)
  have hP : va_P g.1 vwCl (wC g a n (w3 (w3 s 9 ((2 * i + w)) 0 (((s 9 ((2 * i + w)) 0) + 1) % 40)) 10 ((2 * i + w)) 0 ((s 10 ((2 * i + w)) 0) - 1))) H := P_eq (wp_size (i := i) (w := w) hw) hP
  refine lv_iload_n hx hb dX2_take_33 rfl (lv_at hl 0 rfl) ?_
  exact k_iret hx hb hr hlk (by rfl) hP hS dX2_take_34
set_option maxHeartbeats 4000000 in
set_option maxRecDepth 100000 in
/-- Queue.clear -/
theorem c_X2_clear (l : Launch) {g : GG} {a : Nat → Nat} {n : Nat} {A : Nat → Prop} (hA : Ap A a (5 + 7 * n)) (hn6 : n ≤ 6) {s : CS} {i w : Nat} (hi : i < n) (hw : w < 2) : Met l yX2_clear wsX2_clear ({ frames := 0, cells := 0, slots := 0, locals := 0 }) (pC g [.ref (a (7 * i + 8 + 2 * w))] (wC g a n s)) (qV g (wC g a n (w3 s 10 (2 * i + w) 0 0)) A) 0 0 A := by
  refine k_start (cc := cX2_clear) (maxL := 1) (ret := none) (by decide) rfl (Nat.le_of_ble_eq_true rfl) ?_
  intro p e s0 m args below meth c hx hb hml hr hlk hts hown hin hC hP ls hl
  have hS : va_S A s0.heap s0.heap [] := va_S.rf
  have hfx : CallFix p m c cX2_clear 1 s0 args wsX2_clear RX2 := ⟨hx, hb, hml, hown, hts⟩
  have hu2 : ∀ w ∈ wsX20, w.before args s0 = true := fun w h => hts w ((by decide +kernel : ∀ w ∈ wsX20, w ∈ wsX2_clear) w h)
  have hl : lv_has ls 1 [(0, .ref (a (7 * i + 8 + 2 * w)))] := hl
  refine lv_aload_n hx hb dX2_clear_0 rfl (lv_at hl 0 rfl) ?_
  refine k_ic (x := 0) hx hb dX2_clear_1 (by decide) ?_
  refine va_put (D := g.1) (v := .int (nI 0)) (ty := .int) (C := RX2) (T := TX2) (N := 3) (ci := 2) hx hb hu2 (fun _ h => h) tyX2 tyX2_ok nmX2 hown hC.1 hP hA.D hS _ (wC_q (i := i) (w := w) (by omega) hw) rfl 2 (by decide) (hts (.fieldLink RX2 19 "SplicedChain$Queue" "size" "I") (by decide +kernel)) (fun _ h9 => h9) rfl (by decide +kernel) rfl rfl (Nat.le_of_ble_eq_true rfl) dX2_clear_2 (fun H locs hP _ hS => ?_)
  have hP : va_P g.1 vwCl (wC g a n (w3 s 10 ((2 * i + w)) 0 0)) H := P_eq (wp_size (i := i) (w := w) hw) hP
  exact k_vret hx hb hr hlk hP hS dX2_clear_5
