def writeS (s : CS) (j v : Nat) : CS := applyAt (w3 (w3 s 2 0 (s 5 (s 0 0 0) 0 + 1) j) 3 0 (s 5 (s 0 0 0) 0 + 1) v) 0 (s 5 (s 0 0 0) 0 + 1)
def closeAt (s : CS) (p : Nat) : CS := if 0 < p then lclose (lclose s (s 0 0 p)) (s 0 0 (p - 1)) else lclose s (s 0 0 p)
def ackAll (s : CS) : CS := ackN s (s 1 0 0 - 1) (s 6 (s 0 0 (s 1 0 0 - 1)) 0) (s 5 (s 0 0 (s 1 0 0 - 1)) 0 - s 6 (s 0 0 (s 1 0 0 - 1)) 0)
def repS (s : CS) : CS := if (outS s) 0 0 ((outS s) 1 0 0 - 1) = s 0 0 (s 1 0 0 - 1) then outS s else ackAll (outS s)
theorem Sh.out {n : Nat} {s : CS} (h : Sh n s) (h1 : 1 ≤ (tko s (s 1 0 0)).2) : Sh n (outS s) := (h.tk h.1.2).m1 ⟨h1, Nat.le_trans (tko_le s _) h.1.2⟩
theorem ackAll_1 {s : CS} : ackAll s 1 0 0 = s 1 0 0 := ackN_c (by decide) _
set_option maxHeartbeats 4000000 in
set_option maxRecDepth 100000 in
/-- write -/
theorem c_X3_write (l : Launch) {g : GG} {a : Nat → Nat} {n : Nat} {A : Nat → Prop} (hA : Ap A a (5 + 7 * n)) (hn6 : n ≤ 6) {s : CS} {j v : Nat} (hs : Sh n s) (hj : j < 8) (hfl : s 7 (s 0 0 0) 0 = 0) (hh : s 5 (s 0 0 0) 0 < 40) : Met l yX3_write wsX3_write ({ frames := 4, cells := 0, slots := 0, locals := 87 }) (pC g [.ref (a 0), .int (nI j), .int (nI v)] (wC g a n s)) (qI g (nI (s 5 (s 0 0 0) 0 + 1)) (wC g a n (writeS s j v)) A) 0 0 A := by
  refine k_start (cc := cX3_write) (maxL := 5) (ret := (some .int)) (by decide) rfl (Nat.le_of_ble_eq_true rfl) ?_
  intro pr en s0 m args below meth cd hx hb hml hr hlk hts hown hin hC hP ls hl
  have hS : va_S A s0.heap s0.heap [] := va_S.rf
  have hfx : CallFix pr m cd cX3_write 5 s0 args wsX3_write RX3 := ⟨hx, hb, hml, hown, hts⟩
  have hu3 : ∀ w ∈ wsX30, w.before args s0 = true := fun w h => hts w ((by decide +kernel : ∀ w ∈ wsX30, w ∈ wsX3_write) w h)
  have hu1 : ∀ w ∈ wsX10, w.before args s0 = true := fun w h => hts w ((by decide +kernel : ∀ w ∈ wsX10, w ∈ wsX3_write) w h)
  have hl : lv_has ls 5 [(0, .ref (a 0)), (1, .int (nI j)), (2, .int (nI v))] := hl
  have f0 := hs.len
  have f1 := hs.ch 0 (by omega)
  refine lv_iload_n hx hb dX3_write_0 rfl (lv_at hl 1 rfl) ?_
  refine kS_i (r := nI 1) (w2 := wC g a n s) (As := [.int (nI j)]) (rest := []) (A1 := A) hfx (c_X3_isKey l hA hn6 (s := s) (j := j) (by omega)) (va_cwS 1 hts gX3_write_X3_isKey rfl rfl rfl (by decide +kernel) ⟨by decide, by decide⟩) hC hP hS (fun _ h => h) rfl hl.1 rfl (Nat.le_of_ble_eq_true rfl) dX3_write_1 ⟨Nat.le_of_ble_eq_true rfl, Nat.le_of_ble_eq_true rfl⟩ (fun H locs hP hS _ _ => ?_)
  refine k_if_ne (tgt := 17) hx hb dX3_write_4 (by decide) (by omega) (fun c4 => ?_) (fun c4 => ?_)
  · skip
    refine lv_aload_n hx hb dX3_write_17 rfl (lv_at hl 0 rfl) ?_
    refine k_ic (x := 0) hx hb dX3_write_18 (by decide) ?_
    refine kV_r (r := a (7 * (s 0 0 0) + 5)) (w2 := wC g a n s) (As := [.int (nI 0)]) (b := a 0) (rest := []) (A1 := A) hfx (c_X3_nodeAt l hA hn6 (s := s) (p := 0) (x := s 0 0 0) (rfl) (by omega) (by omega)) (cwV 1 hts gX3_write_X3_nodeAt rfl rfl rfl (by decide +kernel) ⟨by decide, by decide⟩) (va_recv hC.1 hP (ci := 3) rfl (wC_obj)) hC hP hS (fun _ h => h) rfl hl.1 rfl (Nat.le_of_ble_eq_true rfl) dX3_write_19 ⟨Nat.le_of_ble_eq_true rfl, Nat.le_of_ble_eq_true rfl⟩ (fun H locs hP hS _ _ => ?_)
    refine lv_astore_n (lv' := [(3, .ref (a (7 * (s 0 0 0) + 5))), (0, .ref (a 0)), (1, .int (nI j)), (2, .int (nI v))]) hx hb dX3_write_22 rfl hl (by decide) rfl (fun ls hl => ?_)
    refine lv_aload_n hx hb dX3_write_23 rfl (lv_at hl 0 rfl) ?_
    refine va_getN (D := g.1) (C := RX1) (T := TX1) (N := 5) (ci := 1) hx hb hu1 (fun _ h => h) hown hC.1 hP _ (wC_node (i := (s 0 0 0)) (by omega)) rfl 4 (by decide) (hC.F (i := 48) (r := RX1) (n := "failed") (d := "Z") (by decide +kernel)) (fun _ h9 => h9) rfl dX3_write_24 ?_
    refine k_if_ne (tgt := 39) hx hb dX3_write_27 (by decide) (by omega) (fun c27 => ?_) (fun c27 => ?_)
    · exfalso; omega
    · skip
      refine lv_aload_n hx hb dX3_write_30 rfl (lv_at hl 0 rfl) ?_
      refine va_getN (D := g.1) (C := RX1) (T := TX1) (N := 5) (ci := 1) hx hb hu1 (fun _ h => h) hown hC.1 hP _ (wC_node (i := (s 0 0 0)) (by omega)) rfl 2 (by decide) (hC.F (i := 52) (r := RX1) (n := "history") (d := "I") (by decide +kernel)) (fun _ h9 => h9) rfl dX3_write_31 ?_
      refine k_bi (x := 40) hx hb dX3_write_34 (by decide) ?_
      refine k_icmp_lt (tgt := 49) hx hb dX3_write_36 (by decide) (by omega) (by omega) (fun c36 => ?_) (fun c36 => ?_)
      · skip
        refine lv_aload_n hx hb dX3_write_49 rfl (lv_at hl 0 rfl) ?_
        refine va_getN (D := g.1) (C := RX1) (T := TX1) (N := 5) (ci := 1) hx hb hu1 (fun _ h => h) hown hC.1 hP _ (wC_node (i := (s 0 0 0)) (by omega)) rfl 2 (by decide) (hC.F (i := 52) (r := RX1) (n := "history") (d := "I") (by decide +kernel)) (fun _ h9 => h9) rfl dX3_write_50 ?_
        refine k_ic (x := 1) hx hb dX3_write_53 (by decide) ?_
        refine k_iadd (x := s 5 ((s 0 0 0)) 0) (y := 1) hx hb dX3_write_54 ?_
        refine lv_istore (lv' := [(4, .int (nI ((s 5 ((s 0 0 0)) 0) + 1))), (3, .ref (a (7 * (s 0 0 0) + 5))), (0, .ref (a 0)), (1, .int (nI j)), (2, .int (nI v))]) hx hb dX3_write_55 hl (by decide) rfl (fun ls hl => ?_)
        refine lv_aload_n hx hb dX3_write_57 rfl (lv_at hl 2 rfl) ?_
        refine va_get (D := g.1) (C := RX3) (T := TX3) (N := 6) (ci := 3) hx hb hu3 (fun _ h => h) hown hC.1 hP _ (wC_obj) rfl 3 (by decide) (hts (.fieldLink RX3 9 "SplicedChain" "keyOfUpdate" "[I") (by decide +kernel)) (fun _ h9 => h9) rfl dX3_write_58 ?_
        refine lv_iload hx hb dX3_write_61 (lv_at hl 0 rfl) ?_
        refine lv_iload_n hx hb dX3_write_63 rfl (lv_at hl 3 rfl) ?_
        refine k_iast hx hb hC hP hA.D hS _ (wC_keys) (j := (s 5 ((s 0 0 0)) 0) + 1) (by omega) (by omega) dX3_write_64 wp_keys (fun H locs hP hS => ?_)
        refine lv_aload_n hx hb dX3_write_65 rfl (lv_at hl 2 rfl) ?_
        refine va_get (D := g.1) (C := RX3) (T := TX3) (N := 6) (ci := 3) hx hb hu3 (fun _ h => h) hown hC.1 hP _ (wC_obj) rfl 4 (by decide) (hts (.fieldLink RX3 13 "SplicedChain" "valueOfUpdate" "[I") (by decide +kernel)) (fun _ h9 => h9) rfl dX3_write_66 ?_
        refine lv_iload hx hb dX3_write_69 (lv_at hl 0 rfl) ?_
        refine lv_iload_n hx hb dX3_write_71 rfl (lv_at hl 4 rfl) ?_
        refine k_iast hx hb hC hP hA.D hS _ (wC_vs) (j := (s 5 ((s 0 0 0)) 0) + 1) (by omega) (by omega) dX3_write_72 wp_vs (fun H locs hP hS => ?_)
        refine lv_aload_n hx hb dX3_write_73 rfl (lv_at hl 2 rfl) ?_
        refine k_ic (x := 0) hx hb dX3_write_74 (by decide) ?_
        refine lv_iload hx hb dX3_write_75 (lv_at hl 0 rfl) ?_
        refine kV_v (w2 := wC g a n (applyAt (w3 (w3 s 2 0 ((s 5 ((s 0 0 0)) 0) + 1) j) 3 0 ((s 5 ((s 0 0 0)) 0) + 1) v) 0 ((s 5 ((s 0 0 0)) 0) + 1))) (As := [.int (nI 0), .int (nI ((s 5 ((s 0 0 0)) 0) + 1))]) (b := a 0) (rest := []) (A1 := A) hfx (c_X3_applyAt l hA hn6 (s := (w3 (w3 s 2 0 ((s 5 ((s 0 0 0)) 0) + 1) j) 3 0 ((s 5 ((s 0 0 0)) 0) + 1) v)) (p := 0) (v := (s 5 ((s 0 0 0)) 0) + 1) ((hs.m2 hj).m3) (by simp [w3]; omega) (by omega)) (cwV 2 hts gX3_write_X3_applyAt rfl rfl rfl (by decide +kernel) ⟨by decide, by decide⟩) (va_recv hC.1 hP (ci := 3) rfl (wC_obj)) hC hP hS (fun _ h => h) rfl hl.1 rfl (Nat.le_of_ble_eq_true rfl) dX3_write_77 ⟨Nat.le_of_ble_eq_true rfl, Nat.le_of_ble_eq_true rfl⟩ (fun H locs hP hS _ _ => ?_)
        refine lv_iload hx hb dX3_write_80 (lv_at hl 0 rfl) ?_
        exact k_iret hx hb hr hlk (by rfl) hP hS dX3_write_82
      · exfalso; omega
  · exfalso; omega
set_option maxHeartbeats 4000000 in
set_option maxRecDepth 100000 in
/-- read -/
theorem c_X3_read (l : Launch) {g : GG} {a : Nat → Nat} {n : Nat} {A : Nat → Prop} (hA : Ap A a (5 + 7 * n)) (hn6 : n ≤ 6) {s : CS} {j : Nat} (hs : Sh n s) (hj : j < 8) (hfl : s 7 (s 0 0 (s 1 0 0 - 1)) 0 = 0) : Met l yX3_read wsX3_read ({ frames := 1, cells := 0, slots := 0, locals := 21 }) (pC g [.ref (a 0), .int (nI j)] (wC g a n s)) (qI g (nI (s 12 (s 0 0 (s 1 0 0 - 1)) j)) (wC g a n s) A) 0 0 A := by
  refine k_start (cc := cX3_read) (maxL := 3) (ret := (some .int)) (by decide) rfl (Nat.le_of_ble_eq_true rfl) ?_
  intro pr en s0 m args below meth cd hx hb hml hr hlk hts hown hin hC hP ls hl
  have hS : va_S A s0.heap s0.heap [] := va_S.rf
  have hfx : CallFix pr m cd cX3_read 3 s0 args wsX3_read RX3 := ⟨hx, hb, hml, hown, hts⟩
  have hu3 : ∀ w ∈ wsX30, w.before args s0 = true := fun w h => hts w ((by decide +kernel : ∀ w ∈ wsX30, w ∈ wsX3_read) w h)
  have hu1 : ∀ w ∈ wsX10, w.before args s0 = true := fun w h => hts w ((by decide +kernel : ∀ w ∈ wsX10, w ∈ wsX3_read) w h)
  have hl : lv_has ls 3 [(0, .ref (a 0)), (1, .int (nI j))] := hl
  have f0 := hs.len
  have f1 := hs.ch (s 1 0 0 - 1) (by omega)
  refine lv_iload_n hx hb dX3_read_0 rfl (lv_at hl 1 rfl) ?_
  refine kS_i (r := nI 1) (w2 := wC g a n s) (As := [.int (nI j)]) (rest := []) (A1 := A) hfx (c_X3_isKey l hA hn6 (s := s) (j := j) (by omega)) (va_cwS 1 hts gX3_read_X3_isKey rfl rfl rfl (by decide +kernel) ⟨by decide, by decide⟩) hC hP hS (fun _ h => h) rfl hl.1 rfl (Nat.le_of_ble_eq_true rfl) dX3_read_1 ⟨Nat.le_of_ble_eq_true rfl, Nat.le_of_ble_eq_true rfl⟩ (fun H locs hP hS _ _ => ?_)
  refine k_if_ne (tgt := 17) hx hb dX3_read_4 (by decide) (by omega) (fun c4 => ?_) (fun c4 => ?_)
  · skip
    refine lv_aload_n hx hb dX3_read_17 rfl (lv_at hl 0 rfl) ?_
    refine lv_aload_n hx hb dX3_read_18 rfl (lv_at hl 0 rfl) ?_
    refine va_get (D := g.1) (C := RX3) (T := TX3) (N := 6) (ci := 3) hx hb hu3 (fun _ h => h) hown hC.1 hP _ (wC_obj) rfl 2 (by decide) (hts (.fieldLink RX3 29 "SplicedChain" "chainLength" "I") (by decide +kernel)) (fun _ h9 => h9) rfl dX3_read_19 ?_
    refine k_ic (x := 1) hx hb dX3_read_22 (by decide) ?_
    refine k_isub (x := s 1 0 0) (y := 1) hx hb (by omega) dX3_read_23 ?_
    refine kV_r (r := a (7 * (s 0 0 ((s 1 0 0) - 1)) + 5)) (w2 := wC g a n s) (As := [.int (nI ((s 1 0 0) - 1))]) (b := a 0) (rest := []) (A1 := A) hfx (c_X3_nodeAt l hA hn6 (s := s) (p := (s 1 0 0) - 1) (x := s 0 0 ((s 1 0 0) - 1)) (rfl) (by omega) (by omega)) (cwV 1 hts gX3_read_X3_nodeAt rfl rfl rfl (by decide +kernel) ⟨by decide, by decide⟩) (va_recv hC.1 hP (ci := 3) rfl (wC_obj)) hC hP hS (fun _ h => h) rfl hl.1 rfl (Nat.le_of_ble_eq_true rfl) dX3_read_24 ⟨Nat.le_of_ble_eq_true rfl, Nat.le_of_ble_eq_true rfl⟩ (fun H locs hP hS _ _ => ?_)
    refine lv_astore_n (lv' := [(2, .ref (a (7 * (s 0 0 ((s 1 0 0) - 1)) + 5))), (0, .ref (a 0)), (1, .int (nI j))]) hx hb dX3_read_27 rfl hl (by decide) rfl (fun ls hl => ?_)
    refine lv_aload_n hx hb dX3_read_28 rfl (lv_at hl 0 rfl) ?_
    refine va_getN (D := g.1) (C := RX1) (T := TX1) (N := 5) (ci := 1) hx hb hu1 (fun _ h => h) hown hC.1 hP _ (wC_node (i := (s 0 0 ((s 1 0 0) - 1))) (by omega)) rfl 4 (by decide) (hC.F (i := 48) (r := RX1) (n := "failed") (d := "Z") (by decide +kernel)) (fun _ h9 => h9) rfl dX3_read_29 ?_
    refine k_if_eq (tgt := 45) hx hb dX3_read_32 (by decide) (by omega) (fun c32 => ?_) (fun c32 => ?_)
    · skip
      refine lv_aload_n hx hb dX3_read_45 rfl (lv_at hl 0 rfl) ?_
      refine va_getN (D := g.1) (C := RX1) (T := TX1) (N := 5) (ci := 1) hx hb hu1 (fun _ h => h) hown hC.1 hP _ (wC_node (i := (s 0 0 ((s 1 0 0) - 1))) (by omega)) rfl 0 (by decide) (hC.F (i := 66) (r := RX1) (n := "values") (d := "[I") (by decide +kernel)) (fun _ h9 => h9) rfl dX3_read_46 ?_
      refine lv_iload_n hx hb dX3_read_49 rfl (lv_at hl 2 rfl) ?_
      refine k_iald hx hb hC hP _ (wC_vals (i := (s 0 0 ((s 1 0 0) - 1))) (by omega)) (j := j) (by omega) (by omega) dX3_read_50 ?_
      exact k_iret hx hb hr hlk (by rfl) hP hS dX3_read_51
    · exfalso; omega
  · exfalso; omega
set_option maxHeartbeats 4000000 in
set_option maxRecDepth 100000 in
/-- deliver -/
theorem c_X3_deliver (l : Launch) {g : GG} {a : Nat → Nat} {n : Nat} {A : Nat → Prop} (hA : Ap A a (5 + 7 * n)) (hn6 : n ≤ 6) {s : CS} {p nd : Nat} (hs : Sh n s) (hnd : nd < n) (hp : p < s 1 0 0) (hpe : s 0 0 p = nd) (hf : ∀ k, k < p → s 0 0 k ≠ nd) (hfl : s 7 nd 0 = 0) (hp0 : 0 < p) (hq : 0 < s 10 (2 * s 0 0 (p - 1) + 0) 0) : Met l yX3_deliver wsX3_deliver ({ frames := 4, cells := 0, slots := 0, locals := 87 }) (pC g [.ref (a 0), .int (nI nd)] (wC g a n s)) (qI g (nI (s 11 (2 * s 0 0 (p - 1) + 0) (s 9 (2 * s 0 0 (p - 1) + 0) 0))) (wC g a n (applyAt (qtake s (2 * s 0 0 (p - 1) + 0)) p (s 11 (2 * s 0 0 (p - 1) + 0) (s 9 (2 * s 0 0 (p - 1) + 0) 0)))) A) 0 0 A := by
  refine k_start (cc := cX3_deliver) (maxL := 4) (ret := (some .int)) (by decide) rfl (Nat.le_of_ble_eq_true rfl) ?_
  intro pr en s0 m args below meth cd hx hb hml hr hlk hts hown hin hC hP ls hl
  have hS : va_S A s0.heap s0.heap [] := va_S.rf
  have hfx : CallFix pr m cd cX3_deliver 4 s0 args wsX3_deliver RX3 := ⟨hx, hb, hml, hown, hts⟩
  have hu3 : ∀ w ∈ wsX30, w.before args s0 = true := fun w h => hts w ((by decide +kernel : ∀ w ∈ wsX30, w ∈ wsX3_deliver) w h)
  have hu1 : ∀ w ∈ wsX10, w.before args s0 = true := fun w h => hts w ((by decide +kernel : ∀ w ∈ wsX10, w ∈ wsX3_deliver) w h)
  have hu0 : ∀ w ∈ wsX00, w.before args s0 = true := fun w h => hts w ((by decide +kernel : ∀ w ∈ wsX00, w ∈ wsX3_deliver) w h)
  have hu2 : ∀ w ∈ wsX20, w.before args s0 = true := fun w h => hts w ((by decide +kernel : ∀ w ∈ wsX20, w ∈ wsX3_deliver) w h)
  have hl : lv_has ls 4 [(0, .ref (a 0)), (1, .int (nI nd))] := hl
  have f0 := hs.len
  have f1 := hs.ch (p - 1) (by omega)
  have f2 := hs.qu (2 * s 0 0 (p - 1) + 0) (by omega)
  have f3 := hs.nu (2 * s 0 0 (p - 1) + 0) (s 9 (2 * s 0 0 (p - 1) + 0) 0) (by omega) (by omega)
  refine lv_aload_n hx hb dX3_deliver_0 rfl (lv_at hl 0 rfl) ?_
  refine lv_iload_n hx hb dX3_deliver_1 rfl (lv_at hl 1 rfl) ?_
  refine kV_i (r := nI 1) (w2 := wC g a n s) (As := [.int (nI nd)]) (b := a 0) (rest := []) (A1 := A) hfx (c_X3_isNode l hA hn6 (s := s) (j := nd) (by omega)) (cwV 1 hts gX3_deliver_X3_isNode rfl rfl rfl (by decide +kernel) ⟨by decide, by decide⟩) (va_recv hC.1 hP (ci := 3) rfl (wC_obj)) hC hP hS (fun _ h => h) rfl hl.1 rfl (Nat.le_of_ble_eq_true rfl) dX3_deliver_2 ⟨Nat.le_of_ble_eq_true rfl, Nat.le_of_ble_eq_true rfl⟩ (fun H locs hP hS _ _ => ?_)
  refine k_if_ne (tgt := 18) hx hb dX3_deliver_5 (by decide) (by omega) (fun c5 => ?_) (fun c5 => ?_)
  · skip
    refine lv_aload_n hx hb dX3_deliver_18 rfl (lv_at hl 0 rfl) ?_
    refine va_get (D := g.1) (C := RX3) (T := TX3) (N := 6) (ci := 3) hx hb hu3 (fun _ h => h) hown hC.1 hP _ (wC_obj) rfl 0 (by decide) (hts (.fieldLink RX3 22 "SplicedChain" "nodes" "[LSplicedChain$Node;") (by decide +kernel)) (fun _ h9 => h9) rfl dX3_deliver_19 ?_
    refine lv_iload_n hx hb dX3_deliver_22 rfl (lv_at hl 1 rfl) ?_
    refine k_aald (x := a (7 * nd + 5)) hx hb hC hP _ (wC_nodes) (j := nd) (by omega) (by omega) (by simp; omega) dX3_deliver_23 ?_
    refine va_getN (D := g.1) (C := RX1) (T := TX1) (N := 5) (ci := 1) hx hb hu1 (fun _ h => h) hown hC.1 hP _ (wC_node (i := nd) (by omega)) rfl 4 (by decide) (hC.F (i := 48) (r := RX1) (n := "failed") (d := "Z") (by decide +kernel)) (fun _ h9 => h9) rfl dX3_deliver_24 ?_
    refine k_if_eq (tgt := 40) hx hb dX3_deliver_27 (by decide) (by omega) (fun c27 => ?_) (fun c27 => ?_)
    · skip
      refine lv_aload_n hx hb dX3_deliver_40 rfl (lv_at hl 0 rfl) ?_
      refine lv_iload_n hx hb dX3_deliver_41 rfl (lv_at hl 1 rfl) ?_
      refine kV_i (r := nI p) (w2 := wC g a n s) (As := [.int (nI nd)]) (b := a 0) (rest := []) (A1 := A) hfx (c_X3_positionOf l hA hn6 (s := s) (p := p) (nd := nd) (hs) (by omega) (hp) (hpe) (hf)) (cwV 1 hts gX3_deliver_X3_positionOf rfl rfl rfl (by decide +kernel) ⟨by decide, by decide⟩) (va_recv hC.1 hP (ci := 3) rfl (wC_obj)) hC hP hS (fun _ h => h) rfl hl.1 rfl (Nat.le_of_ble_eq_true rfl) dX3_deliver_42 ⟨Nat.le_of_ble_eq_true rfl, Nat.le_of_ble_eq_true rfl⟩ (fun H locs hP hS _ _ => ?_)
      refine lv_istore_n (lv' := [(2, .int (nI p)), (0, .ref (a 0)), (1, .int (nI nd))]) hx hb dX3_deliver_45 rfl hl (by decide) rfl (fun ls hl => ?_)
      refine lv_aload_n hx hb dX3_deliver_46 rfl (lv_at hl 1 rfl) ?_
      refine lv_iload_n hx hb dX3_deliver_47 rfl (lv_at hl 0 rfl) ?_
      refine kV_i (r := nI (if 0 < p then s 10 (2 * s 0 0 (p - 1) + 0) 0 else 0)) (w2 := wC g a n s) (As := [.int (nI p)]) (b := a 0) (rest := []) (A1 := A) hfx (c_X3_updatesTowards l hA hn6 (s := s) (p := p) (hs) (by omega)) (cwV 1 hts gX3_deliver_X3_updatesTowards rfl rfl rfl (by decide +kernel) ⟨by decide, by decide⟩) (va_recv hC.1 hP (ci := 3) rfl (wC_obj)) hC hP hS (fun _ h => h) rfl hl.1 rfl (Nat.le_of_ble_eq_true rfl) dX3_deliver_48 ⟨Nat.le_of_ble_eq_true rfl, Nat.le_of_ble_eq_true rfl⟩ (fun H locs hP hS _ _ => ?_)
      rw [if_pos hp0]
      refine k_if_ne (tgt := 64) hx hb dX3_deliver_51 (by decide) (by omega) (fun c51 => ?_) (fun c51 => ?_)
      · skip
        refine lv_aload_n hx hb dX3_deliver_64 rfl (lv_at hl 1 rfl) ?_
        refine lv_iload_n hx hb dX3_deliver_65 rfl (lv_at hl 0 rfl) ?_
        refine k_ic (x := 1) hx hb dX3_deliver_66 (by decide) ?_
        refine k_isub (x := p) (y := 1) hx hb (by omega) dX3_deliver_67 ?_
        refine kV_r (r := a (7 * (s 0 0 (p - 1)) + 5)) (w2 := wC g a n s) (As := [.int (nI (p - 1))]) (b := a 0) (rest := []) (A1 := A) hfx (c_X3_nodeAt l hA hn6 (s := s) (p := p - 1) (x := s 0 0 (p - 1)) (rfl) (by omega) (by omega)) (cwV 1 hts gX3_deliver_X3_nodeAt rfl rfl rfl (by decide +kernel) ⟨by decide, by decide⟩) (va_recv hC.1 hP (ci := 3) rfl (wC_obj)) hC hP hS (fun _ h => h) rfl hl.1 rfl (Nat.le_of_ble_eq_true rfl) dX3_deliver_68 ⟨Nat.le_of_ble_eq_true rfl, Nat.le_of_ble_eq_true rfl⟩ (fun H locs hP hS _ _ => ?_)
        refine va_getN (D := g.1) (C := RX1) (T := TX1) (N := 5) (ci := 1) hx hb hu1 (fun _ h => h) hown hC.1 hP _ (wC_node (i := (s 0 0 (p - 1))) (by omega)) rfl 1 (by decide) (hC.F (i := 88) (r := RX1) (n := "link") (d := "LSplicedChain$Link;") (by decide +kernel)) (fun _ h9 => h9) rfl dX3_deliver_71 ?_
        refine va_getN (D := g.1) (C := RX0) (T := TX0) (N := 3) (ci := 0) hx hb hu0 (fun _ h => h) hown hC.1 hP _ (wC_link (i := (s 0 0 (p - 1))) (by omega)) rfl 0 (by decide) (hC.F (i := 92) (r := RX0) (n := "updates") (d := "LSplicedChain$Queue;") (by decide +kernel)) (fun _ h9 => h9) rfl dX3_deliver_74 ?_
        refine kV_i (r := nI (s 11 (2 * (s 0 0 (p - 1)) + 0) (s 9 (2 * (s 0 0 (p - 1)) + 0) 0))) (w2 := wC g a n (qtake s (2 * (s 0 0 (p - 1)) + 0))) (As := []) (b := a (7 * (s 0 0 (p - 1)) + 8)) (rest := []) (A1 := A) hfx (c_X2_take l hA hn6 (s := s) (i := (s 0 0 (p - 1))) (w := 0) (by omega) (by decide) (by omega) (by omega)) (cwV 0 hts gX3_deliver_X2_take rfl rfl rfl (by decide +kernel) ⟨by decide, by decide⟩) (va_recv hC.1 hP (ci := 2) rfl (wC_q (i := (s 0 0 (p - 1))) (w := 0) (by omega) (by decide))) hC hP hS (fun _ h => h) rfl hl.1 rfl (Nat.le_of_ble_eq_true rfl) dX3_deliver_77 ⟨Nat.le_of_ble_eq_true rfl, Nat.le_of_ble_eq_true rfl⟩ (fun H locs hP hS _ _ => ?_)
        refine lv_istore_n (lv' := [(3, .int (nI (s 11 (2 * (s 0 0 (p - 1)) + 0) (s 9 (2 * (s 0 0 (p - 1)) + 0) 0)))), (2, .int (nI p)), (0, .ref (a 0)), (1, .int (nI nd))]) hx hb dX3_deliver_80 rfl hl (by decide) rfl (fun ls hl => ?_)
        refine lv_aload_n hx hb dX3_deliver_81 rfl (lv_at hl 2 rfl) ?_
        refine lv_iload_n hx hb dX3_deliver_82 rfl (lv_at hl 1 rfl) ?_
        refine lv_iload_n hx hb dX3_deliver_83 rfl (lv_at hl 0 rfl) ?_
        refine kV_v (w2 := wC g a n (applyAt (qtake s (2 * (s 0 0 (p - 1)) + 0)) p (s 11 (2 * (s 0 0 (p - 1)) + 0) (s 9 (2 * (s 0 0 (p - 1)) + 0) 0)))) (As := [.int (nI p), .int (nI (s 11 (2 * (s 0 0 (p - 1)) + 0) (s 9 (2 * (s 0 0 (p - 1)) + 0) 0)))]) (b := a 0) (rest := []) (A1 := A) hfx (c_X3_applyAt l hA hn6 (s := (qtake s (2 * (s 0 0 (p - 1)) + 0))) (p := p) (v := s 11 (2 * (s 0 0 (p - 1)) + 0) (s 9 (2 * (s 0 0 (p - 1)) + 0) 0)) (hs.qt (by omega)) (by simp [qtake, w3]; omega) (by omega)) (cwV 2 hts gX3_deliver_X3_applyAt rfl rfl rfl (by decide +kernel) ⟨by decide, by decide⟩) (va_recv hC.1 hP (ci := 3) rfl (wC_obj)) hC hP hS (fun _ h => h) rfl hl.1 rfl (Nat.le_of_ble_eq_true rfl) dX3_deliver_84 ⟨Nat.le_of_ble_eq_true rfl, Nat.le_of_ble_eq_true rfl⟩ (fun H locs hP hS _ _ => ?_)
        refine lv_iload_n hx hb dX3_deliver_87 rfl (lv_at hl 0 rfl) ?_
        exact k_iret hx hb hr hlk (by rfl) hP hS dX3_deliver_88
      · exfalso; omega
    · exfalso; omega
  · exfalso; omega
set_option maxHeartbeats 4000000 in
set_option maxRecDepth 100000 in
/-- acknowledge -/
theorem c_X3_acknowledge (l : Launch) {g : GG} {a : Nat → Nat} {n : Nat} {A : Nat → Prop} (hA : Ap A a (5 + 7 * n)) (hn6 : n ≤ 6) {s : CS} {p nd : Nat} (hs : Sh n s) (hnd : nd < n) (hp : p < s 1 0 0) (hpe : s 0 0 p = nd) (hf : ∀ k, k < p → s 0 0 k ≠ nd) (hfl : s 7 nd 0 = 0) (hp0 : p + 1 ≠ s 1 0 0) (hq : 0 < s 10 (2 * s 0 0 p + 1) 0) : Met l yX3_acknowledge wsX3_acknowledge ({ frames := 3, cells := 0, slots := 0, locals := 64 }) (pC g [.ref (a 0), .int (nI nd)] (wC g a n s)) (qI g (nI (s 11 (2 * s 0 0 p + 1) (s 9 (2 * s 0 0 p + 1) 0))) (wC g a n (ackAt (qtake s (2 * s 0 0 p + 1)) p (s 11 (2 * s 0 0 p + 1) (s 9 (2 * s 0 0 p + 1) 0)))) A) 0 0 A := by
  refine k_start (cc := cX3_acknowledge) (maxL := 4) (ret := (some .int)) (by decide) rfl (Nat.le_of_ble_eq_true rfl) ?_
  intro pr en s0 m args below meth cd hx hb hml hr hlk hts hown hin hC hP ls hl
  have hS : va_S A s0.heap s0.heap [] := va_S.rf
  have hfx : CallFix pr m cd cX3_acknowledge 4 s0 args wsX3_acknowledge RX3 := ⟨hx, hb, hml, hown, hts⟩
  have hu3 : ∀ w ∈ wsX30, w.before args s0 = true := fun w h => hts w ((by decide +kernel : ∀ w ∈ wsX30, w ∈ wsX3_acknowledge) w h)
  have hu1 : ∀ w ∈ wsX10, w.before args s0 = true := fun w h => hts w ((by decide +kernel : ∀ w ∈ wsX10, w ∈ wsX3_acknowledge) w h)
  have hu0 : ∀ w ∈ wsX00, w.before args s0 = true := fun w h => hts w ((by decide +kernel : ∀ w ∈ wsX00, w ∈ wsX3_acknowledge) w h)
  have hu2 : ∀ w ∈ wsX20, w.before args s0 = true := fun w h => hts w ((by decide +kernel : ∀ w ∈ wsX20, w ∈ wsX3_acknowledge) w h)
  have hl : lv_has ls 4 [(0, .ref (a 0)), (1, .int (nI nd))] := hl
  have f0 := hs.len
  have f1 := hs.ch p (by omega)
  have f2 := hs.qu (2 * s 0 0 p + 1) (by omega)
  have f3 := hs.nu (2 * s 0 0 p + 1) (s 9 (2 * s 0 0 p + 1) 0) (by omega) (by omega)
  refine lv_aload_n hx hb dX3_acknowledge_0 rfl (lv_at hl 0 rfl) ?_
  refine lv_iload_n hx hb dX3_acknowledge_1 rfl (lv_at hl 1 rfl) ?_
  refine kV_i (r := nI 1) (w2 := wC g a n s) (As := [.int (nI nd)]) (b := a 0) (rest := []) (A1 := A) hfx (c_X3_isNode l hA hn6 (s := s) (j := nd) (by omega)) (cwV 1 hts gX3_acknowledge_X3_isNode rfl rfl rfl (by decide +kernel) ⟨by decide, by decide⟩) (va_recv hC.1 hP (ci := 3) rfl (wC_obj)) hC hP hS (fun _ h => h) rfl hl.1 rfl (Nat.le_of_ble_eq_true rfl) dX3_acknowledge_2 ⟨Nat.le_of_ble_eq_true rfl, Nat.le_of_ble_eq_true rfl⟩ (fun H locs hP hS _ _ => ?_)
  refine k_if_ne (tgt := 18) hx hb dX3_acknowledge_5 (by decide) (by omega) (fun c5 => ?_) (fun c5 => ?_)
  · skip
    refine lv_aload_n hx hb dX3_acknowledge_18 rfl (lv_at hl 0 rfl) ?_
    refine va_get (D := g.1) (C := RX3) (T := TX3) (N := 6) (ci := 3) hx hb hu3 (fun _ h => h) hown hC.1 hP _ (wC_obj) rfl 0 (by decide) (hts (.fieldLink RX3 22 "SplicedChain" "nodes" "[LSplicedChain$Node;") (by decide +kernel)) (fun _ h9 => h9) rfl dX3_acknowledge_19 ?_
    refine lv_iload_n hx hb dX3_acknowledge_22 rfl (lv_at hl 1 rfl) ?_
    refine k_aald (x := a (7 * nd + 5)) hx hb hC hP _ (wC_nodes) (j := nd) (by omega) (by omega) (by simp; omega) dX3_acknowledge_23 ?_
    refine va_getN (D := g.1) (C := RX1) (T := TX1) (N := 5) (ci := 1) hx hb hu1 (fun _ h => h) hown hC.1 hP _ (wC_node (i := nd) (by omega)) rfl 4 (by decide) (hC.F (i := 48) (r := RX1) (n := "failed") (d := "Z") (by decide +kernel)) (fun _ h9 => h9) rfl dX3_acknowledge_24 ?_
    refine k_if_eq (tgt := 40) hx hb dX3_acknowledge_27 (by decide) (by omega) (fun c27 => ?_) (fun c27 => ?_)
    · skip
      refine lv_aload_n hx hb dX3_acknowledge_40 rfl (lv_at hl 0 rfl) ?_
      refine lv_iload_n hx hb dX3_acknowledge_41 rfl (lv_at hl 1 rfl) ?_
      refine kV_i (r := nI p) (w2 := wC g a n s) (As := [.int (nI nd)]) (b := a 0) (rest := []) (A1 := A) hfx (c_X3_positionOf l hA hn6 (s := s) (p := p) (nd := nd) (hs) (by omega) (hp) (hpe) (hf)) (cwV 1 hts gX3_acknowledge_X3_positionOf rfl rfl rfl (by decide +kernel) ⟨by decide, by decide⟩) (va_recv hC.1 hP (ci := 3) rfl (wC_obj)) hC hP hS (fun _ h => h) rfl hl.1 rfl (Nat.le_of_ble_eq_true rfl) dX3_acknowledge_42 ⟨Nat.le_of_ble_eq_true rfl, Nat.le_of_ble_eq_true rfl⟩ (fun H locs hP hS _ _ => ?_)
      refine lv_istore_n (lv' := [(2, .int (nI p)), (0, .ref (a 0)), (1, .int (nI nd))]) hx hb dX3_acknowledge_45 rfl hl (by decide) rfl (fun ls hl => ?_)
      refine lv_aload_n hx hb dX3_acknowledge_46 rfl (lv_at hl 1 rfl) ?_
      refine lv_iload_n hx hb dX3_acknowledge_47 rfl (lv_at hl 0 rfl) ?_
      refine kV_i (r := nI (if p + 1 = s 1 0 0 then 0 else s 10 (2 * s 0 0 p + 1) 0)) (w2 := wC g a n s) (As := [.int (nI p)]) (b := a 0) (rest := []) (A1 := A) hfx (c_X3_acknowledgementsTowards l hA hn6 (s := s) (p := p) (hs) (by omega)) (cwV 1 hts gX3_acknowledge_X3_acknowledgementsTowards rfl rfl rfl (by decide +kernel) ⟨by decide, by decide⟩) (va_recv hC.1 hP (ci := 3) rfl (wC_obj)) hC hP hS (fun _ h => h) rfl hl.1 rfl (Nat.le_of_ble_eq_true rfl) dX3_acknowledge_48 ⟨Nat.le_of_ble_eq_true rfl, Nat.le_of_ble_eq_true rfl⟩ (fun H locs hP hS _ _ => ?_)
      rw [if_neg hp0]
      refine k_if_ne (tgt := 64) hx hb dX3_acknowledge_51 (by decide) (by omega) (fun c51 => ?_) (fun c51 => ?_)
      · skip
        refine lv_aload_n hx hb dX3_acknowledge_64 rfl (lv_at hl 1 rfl) ?_
        refine lv_iload_n hx hb dX3_acknowledge_65 rfl (lv_at hl 0 rfl) ?_
        refine kV_r (r := a (7 * (s 0 0 p) + 5)) (w2 := wC g a n s) (As := [.int (nI p)]) (b := a 0) (rest := []) (A1 := A) hfx (c_X3_nodeAt l hA hn6 (s := s) (p := p) (x := s 0 0 p) (rfl) (by omega) (by omega)) (cwV 1 hts gX3_acknowledge_X3_nodeAt rfl rfl rfl (by decide +kernel) ⟨by decide, by decide⟩) (va_recv hC.1 hP (ci := 3) rfl (wC_obj)) hC hP hS (fun _ h => h) rfl hl.1 rfl (Nat.le_of_ble_eq_true rfl) dX3_acknowledge_66 ⟨Nat.le_of_ble_eq_true rfl, Nat.le_of_ble_eq_true rfl⟩ (fun H locs hP hS _ _ => ?_)
        refine va_getN (D := g.1) (C := RX1) (T := TX1) (N := 5) (ci := 1) hx hb hu1 (fun _ h => h) hown hC.1 hP _ (wC_node (i := (s 0 0 p)) (by omega)) rfl 1 (by decide) (hC.F (i := 88) (r := RX1) (n := "link") (d := "LSplicedChain$Link;") (by decide +kernel)) (fun _ h9 => h9) rfl dX3_acknowledge_69 ?_
        refine va_getN (D := g.1) (C := RX0) (T := TX0) (N := 3) (ci := 0) hx hb hu0 (fun _ h => h) hown hC.1 hP _ (wC_link (i := (s 0 0 p)) (by omega)) rfl 1 (by decide) (hC.F (i := 109) (r := RX0) (n := "acknowledgements") (d := "LSplicedChain$Queue;") (by decide +kernel)) (fun _ h9 => h9) rfl dX3_acknowledge_72 ?_
        refine kV_i (r := nI (s 11 (2 * (s 0 0 p) + 1) (s 9 (2 * (s 0 0 p) + 1) 0))) (w2 := wC g a n (qtake s (2 * (s 0 0 p) + 1))) (As := []) (b := a (7 * (s 0 0 p) + 10)) (rest := []) (A1 := A) hfx (c_X2_take l hA hn6 (s := s) (i := (s 0 0 p)) (w := 1) (by omega) (by decide) (by omega) (by omega)) (cwV 0 hts gX3_acknowledge_X2_take rfl rfl rfl (by decide +kernel) ⟨by decide, by decide⟩) (va_recv hC.1 hP (ci := 2) rfl (wC_q (i := (s 0 0 p)) (w := 1) (by omega) (by decide))) hC hP hS (fun _ h => h) rfl hl.1 rfl (Nat.le_of_ble_eq_true rfl) dX3_acknowledge_75 ⟨Nat.le_of_ble_eq_true rfl, Nat.le_of_ble_eq_true rfl⟩ (fun H locs hP hS _ _ => ?_)
        refine lv_istore_n (lv' := [(3, .int (nI (s 11 (2 * (s 0 0 p) + 1) (s 9 (2 * (s 0 0 p) + 1) 0)))), (2, .int (nI p)), (0, .ref (a 0)), (1, .int (nI nd))]) hx hb dX3_acknowledge_78 rfl hl (by decide) rfl (fun ls hl => ?_)
        refine lv_aload_n hx hb dX3_acknowledge_79 rfl (lv_at hl 2 rfl) ?_
        refine lv_iload_n hx hb dX3_acknowledge_80 rfl (lv_at hl 1 rfl) ?_
        refine lv_iload_n hx hb dX3_acknowledge_81 rfl (lv_at hl 0 rfl) ?_
        refine kV_v (w2 := wC g a n (ackAt (qtake s (2 * (s 0 0 p) + 1)) p (s 11 (2 * (s 0 0 p) + 1) (s 9 (2 * (s 0 0 p) + 1) 0)))) (As := [.int (nI p), .int (nI (s 11 (2 * (s 0 0 p) + 1) (s 9 (2 * (s 0 0 p) + 1) 0)))]) (b := a 0) (rest := []) (A1 := A) hfx (c_X3_acknowledgeAt l hA hn6 (s := (qtake s (2 * (s 0 0 p) + 1))) (p := p) (v := s 11 (2 * (s 0 0 p) + 1) (s 9 (2 * (s 0 0 p) + 1) 0)) (hs.qt (by omega)) (by simp [qtake, w3]; omega) (by omega)) (cwV 2 hts gX3_acknowledge_X3_acknowledgeAt rfl rfl rfl (by decide +kernel) ⟨by decide, by decide⟩) (va_recv hC.1 hP (ci := 3) rfl (wC_obj)) hC hP hS (fun _ h => h) rfl hl.1 rfl (Nat.le_of_ble_eq_true rfl) dX3_acknowledge_82 ⟨Nat.le_of_ble_eq_true rfl, Nat.le_of_ble_eq_true rfl⟩ (fun H locs hP hS _ _ => ?_)
        refine lv_iload_n hx hb dX3_acknowledge_85 rfl (lv_at hl 0 rfl) ?_
        exact k_iret hx hb hr hlk (by rfl) hP hS dX3_acknowledge_86
      · exfalso; omega
    · exfalso; omega
  · exfalso; omega
set_option maxHeartbeats 4000000 in
set_option maxRecDepth 100000 in
/-- fail: not done -/
theorem c_X3_fail_no (l : Launch) {g : GG} {a : Nat → Nat} {n : Nat} {A : Nat → Prop} (hA : Ap A a (5 + 7 * n)) (hn6 : n ≤ 6) {s : CS} {nd : Nat} (hs : Sh n s) (hnd : nd < n) (hno : s 7 nd 0 ≠ 0 ∨ cntS s n ≤ 1) : Met l yX3_fail wsX3_fail ({ frames := 3, cells := 0, slots := 0, locals := 61 }) (pC g [.ref (a 0), .int (nI nd)] (wC g a n s)) (qI g (nI 0) (wC g a n s) A) 0 0 A := by
  refine k_start (cc := cX3_fail) (maxL := 2) (ret := (some .boolean)) (by decide) rfl (Nat.le_of_ble_eq_true rfl) ?_
  intro pr en s0 m args below meth cd hx hb hml hr hlk hts hown hin hC hP ls hl
  have hS : va_S A s0.heap s0.heap [] := va_S.rf
  have hfx : CallFix pr m cd cX3_fail 2 s0 args wsX3_fail RX3 := ⟨hx, hb, hml, hown, hts⟩
  have hu3 : ∀ w ∈ wsX30, w.before args s0 = true := fun w h => hts w ((by decide +kernel : ∀ w ∈ wsX30, w ∈ wsX3_fail) w h)
  have hu1 : ∀ w ∈ wsX10, w.before args s0 = true := fun w h => hts w ((by decide +kernel : ∀ w ∈ wsX10, w ∈ wsX3_fail) w h)
  have hl : lv_has ls 2 [(0, .ref (a 0)), (1, .int (nI nd))] := hl
  have f0 := hs.nd nd hnd
  have f1 := cntS_le s n
  refine lv_aload_n hx hb dX3_fail_0 rfl (lv_at hl 0 rfl) ?_
  refine lv_iload_n hx hb dX3_fail_1 rfl (lv_at hl 1 rfl) ?_
  refine kV_i (r := nI 1) (w2 := wC g a n s) (As := [.int (nI nd)]) (b := a 0) (rest := []) (A1 := A) hfx (c_X3_isNode l hA hn6 (s := s) (j := nd) (by omega)) (cwV 1 hts gX3_fail_X3_isNode rfl rfl rfl (by decide +kernel) ⟨by decide, by decide⟩) (va_recv hC.1 hP (ci := 3) rfl (wC_obj)) hC hP hS (fun _ h => h) rfl hl.1 rfl (Nat.le_of_ble_eq_true rfl) dX3_fail_2 ⟨Nat.le_of_ble_eq_true rfl, Nat.le_of_ble_eq_true rfl⟩ (fun H locs hP hS _ _ => ?_)
  refine k_if_ne (tgt := 18) hx hb dX3_fail_5 (by decide) (by omega) (fun c5 => ?_) (fun c5 => ?_)
  · skip
    refine lv_aload_n hx hb dX3_fail_18 rfl (lv_at hl 0 rfl) ?_
    refine va_get (D := g.1) (C := RX3) (T := TX3) (N := 6) (ci := 3) hx hb hu3 (fun _ h => h) hown hC.1 hP _ (wC_obj) rfl 0 (by decide) (hts (.fieldLink RX3 22 "SplicedChain" "nodes" "[LSplicedChain$Node;") (by decide +kernel)) (fun _ h9 => h9) rfl dX3_fail_19 ?_
    refine lv_iload_n hx hb dX3_fail_22 rfl (lv_at hl 1 rfl) ?_
    refine k_aald (x := a (7 * nd + 5)) hx hb hC hP _ (wC_nodes) (j := nd) (by omega) (by omega) (by simp; omega) dX3_fail_23 ?_
    refine va_getN (D := g.1) (C := RX1) (T := TX1) (N := 5) (ci := 1) hx hb hu1 (fun _ h => h) hown hC.1 hP _ (wC_node (i := nd) (by omega)) rfl 4 (by decide) (hC.F (i := 48) (r := RX1) (n := "failed") (d := "Z") (by decide +kernel)) (fun _ h9 => h9) rfl dX3_fail_24 ?_
    refine k_if_ne (tgt := 38) hx hb dX3_fail_27 (by decide) (by omega) (fun c27 => ?_) (fun c27 => ?_)
    · skip
      refine k_ic (x := 0) hx hb dX3_fail_38 (by decide) ?_
      exact k_zret hx hb hr hlk (by rfl) (by decide) hP hS dX3_fail_39
    · skip
      refine lv_aload_n hx hb dX3_fail_30 rfl (lv_at hl 0 rfl) ?_
      refine kV_i (r := nI (cntS s n)) (w2 := wC g a n s) (As := []) (b := a 0) (rest := []) (A1 := A) hfx (c_X3_countStanding l hA hn6 (s := s) (hs)) (cwV 0 hts gX3_fail_X3_countStanding rfl rfl rfl (by decide +kernel) ⟨by decide, by decide⟩) (va_recv hC.1 hP (ci := 3) rfl (wC_obj)) hC hP hS (fun _ h => h) rfl hl.1 rfl (Nat.le_of_ble_eq_true rfl) dX3_fail_31 ⟨Nat.le_of_ble_eq_true rfl, Nat.le_of_ble_eq_true rfl⟩ (fun H locs hP hS _ _ => ?_)
      refine k_ic (x := 1) hx hb dX3_fail_34 (by decide) ?_
      refine k_icmp_gt (tgt := 40) hx hb dX3_fail_35 (by decide) (by omega) (by omega) (fun c35 => ?_) (fun c35 => ?_)
      · exfalso; omega
      · skip
        refine k_ic (x := 0) hx hb dX3_fail_38 (by decide) ?_
        exact k_zret hx hb hr hlk (by rfl) (by decide) hP hS dX3_fail_39
  · exfalso; omega
set_option maxHeartbeats 4000000 in
set_option maxRecDepth 100000 in
/-- fail: done -/
theorem c_X3_fail (l : Launch) {g : GG} {a : Nat → Nat} {n : Nat} {A : Nat → Prop} (hA : Ap A a (5 + 7 * n)) (hn6 : n ≤ 6) {s : CS} {p nd : Nat} (hs : Sh n s) (hnd : nd < n) (hp : p < s 1 0 0) (hpe : s 0 0 p = nd) (hf : ∀ k, k < p → s 0 0 k ≠ nd) (hfl : s 7 nd 0 = 0) (hct : 1 < cntS s n) : Met l yX3_fail wsX3_fail ({ frames := 3, cells := 0, slots := 0, locals := 61 }) (pC g [.ref (a 0), .int (nI nd)] (wC g a n s)) (qI g (nI 1) (wC g a n (closeAt (w3 s 7 nd 0 1) p)) A) 0 0 A := by
  refine k_start (cc := cX3_fail) (maxL := 2) (ret := (some .boolean)) (by decide) rfl (Nat.le_of_ble_eq_true rfl) ?_
  intro pr en s0 m args below meth cd hx hb hml hr hlk hts hown hin hC hP ls hl
  have hS : va_S A s0.heap s0.heap [] := va_S.rf
  have hfx : CallFix pr m cd cX3_fail 2 s0 args wsX3_fail RX3 := ⟨hx, hb, hml, hown, hts⟩
  have hu3 : ∀ w ∈ wsX30, w.before args s0 = true := fun w h => hts w ((by decide +kernel : ∀ w ∈ wsX30, w ∈ wsX3_fail) w h)
  have hu1 : ∀ w ∈ wsX10, w.before args s0 = true := fun w h => hts w ((by decide +kernel : ∀ w ∈ wsX10, w ∈ wsX3_fail) w h)
  have hl : lv_has ls 2 [(0, .ref (a 0)), (1, .int (nI nd))] := hl
  have f0 := hs.nd nd hnd
  have f1 := cntS_le s n
  have f2 := hs.len
  refine lv_aload_n hx hb dX3_fail_0 rfl (lv_at hl 0 rfl) ?_
  refine lv_iload_n hx hb dX3_fail_1 rfl (lv_at hl 1 rfl) ?_
  refine kV_i (r := nI 1) (w2 := wC g a n s) (As := [.int (nI nd)]) (b := a 0) (rest := []) (A1 := A) hfx (c_X3_isNode l hA hn6 (s := s) (j := nd) (by omega)) (cwV 1 hts gX3_fail_X3_isNode rfl rfl rfl (by decide +kernel) ⟨by decide, by decide⟩) (va_recv hC.1 hP (ci := 3) rfl (wC_obj)) hC hP hS (fun _ h => h) rfl hl.1 rfl (Nat.le_of_ble_eq_true rfl) dX3_fail_2 ⟨Nat.le_of_ble_eq_true rfl, Nat.le_of_ble_eq_true rfl⟩ (fun H locs hP hS _ _ => ?_)
  refine k_if_ne (tgt := 18) hx hb dX3_fail_5 (by decide) (by omega) (fun c5 => ?_) (fun c5 => ?_)
  · skip
    refine lv_aload_n hx hb dX3_fail_18 rfl (lv_at hl 0 rfl) ?_
    refine va_get (D := g.1) (C := RX3) (T := TX3) (N := 6) (ci := 3) hx hb hu3 (fun _ h => h) hown hC.1 hP _ (wC_obj) rfl 0 (by decide) (hts (.fieldLink RX3 22 "SplicedChain" "nodes" "[LSplicedChain$Node;") (by decide +kernel)) (fun _ h9 => h9) rfl dX3_fail_19 ?_
    refine lv_iload_n hx hb dX3_fail_22 rfl (lv_at hl 1 rfl) ?_
    refine k_aald (x := a (7 * nd + 5)) hx hb hC hP _ (wC_nodes) (j := nd) (by omega) (by omega) (by simp; omega) dX3_fail_23 ?_
    refine va_getN (D := g.1) (C := RX1) (T := TX1) (N := 5) (ci := 1) hx hb hu1 (fun _ h => h) hown hC.1 hP _ (wC_node (i := nd) (by omega)) rfl 4 (by decide) (hC.F (i := 48) (r := RX1) (n := "failed") (d := "Z") (by decide +kernel)) (fun _ h9 => h9) rfl dX3_fail_24 ?_
    refine k_if_ne (tgt := 38) hx hb dX3_fail_27 (by decide) (by omega) (fun c27 => ?_) (fun c27 => ?_)
    · exfalso; omega
    · skip
      refine lv_aload_n hx hb dX3_fail_30 rfl (lv_at hl 0 rfl) ?_
      refine kV_i (r := nI (cntS s n)) (w2 := wC g a n s) (As := []) (b := a 0) (rest := []) (A1 := A) hfx (c_X3_countStanding l hA hn6 (s := s) (hs)) (cwV 0 hts gX3_fail_X3_countStanding rfl rfl rfl (by decide +kernel) ⟨by decide, by decide⟩) (va_recv hC.1 hP (ci := 3) rfl (wC_obj)) hC hP hS (fun _ h => h) rfl hl.1 rfl (Nat.le_of_ble_eq_true rfl) dX3_fail_31 ⟨Nat.le_of_ble_eq_true rfl, Nat.le_of_ble_eq_true rfl⟩ (fun H locs hP hS _ _ => ?_)
      refine k_ic (x := 1) hx hb dX3_fail_34 (by decide) ?_
      refine k_icmp_gt (tgt := 40) hx hb dX3_fail_35 (by decide) (by omega) (by omega) (fun c35 => ?_) (fun c35 => ?_)
      · skip
        refine lv_aload_n hx hb dX3_fail_40 rfl (lv_at hl 0 rfl) ?_
        refine va_get (D := g.1) (C := RX3) (T := TX3) (N := 6) (ci := 3) hx hb hu3 (fun _ h => h) hown hC.1 hP _ (wC_obj) rfl 0 (by decide) (hts (.fieldLink RX3 22 "SplicedChain" "nodes" "[LSplicedChain$Node;") (by decide +kernel)) (fun _ h9 => h9) rfl dX3_fail_41 ?_
        refine lv_iload_n hx hb dX3_fail_44 rfl (lv_at hl 1 rfl) ?_
        refine k_aald (x := a (7 * nd + 5)) hx hb hC hP _ (wC_nodes) (j := nd) (by omega) (by omega) (by simp; omega) dX3_fail_45 ?_
        refine k_ic (x := 1) hx hb dX3_fail_46 (by decide) ?_
        refine va_putN (D := g.1) (v := .int (nI 1)) (ty := .boolean) (C := RX1) (T := TX1) (N := 5) (ci := 1) hx hb hu1 (fun _ h => h) tyX1 tyX1_ok nmX1 hown hC.1 hP hA.D hS _ (wC_node (i := nd) (by omega)) rfl 4 (by decide) (hC.F (i := 48) (r := RX1) (n := "failed") (d := "Z") (by decide +kernel)) (fun _ h9 => h9) rfl (by decide +kernel) (by decide) rfl (Nat.le_of_ble_eq_true rfl) dX3_fail_47 (fun H locs hP _ hS => ?_)
        have hP : va_P g.1 vwCl (wC g a n (w3 s 7 nd 0 1)) H := P_eq (wp_fail (i := nd)) hP
        refine lv_aload_n hx hb dX3_fail_50 rfl (lv_at hl 0 rfl) ?_
        refine lv_aload_n hx hb dX3_fail_51 rfl (lv_at hl 0 rfl) ?_
        refine lv_iload_n hx hb dX3_fail_52 rfl (lv_at hl 1 rfl) ?_
        refine kV_i (r := nI p) (w2 := wC g a n (w3 s 7 nd 0 1)) (As := [.int (nI nd)]) (b := a 0) (rest := [.ref (a 0)]) (A1 := A) hfx (c_X3_positionOf l hA hn6 (s := (w3 s 7 nd 0 1)) (p := p) (nd := nd) (hs.m7 (by omega)) (by omega) (by simp [w3]; omega) (by simp [w3]; exact hpe) (fun k hk => by simp [w3]; exact hf k hk)) (cwV 1 hts gX3_fail_X3_positionOf rfl rfl rfl (by decide +kernel) ⟨by decide, by decide⟩) (va_recv hC.1 hP (ci := 3) rfl (wC_obj)) hC hP hS (fun _ h => h) rfl hl.1 rfl (Nat.le_of_ble_eq_true rfl) dX3_fail_53 ⟨Nat.le_of_ble_eq_true rfl, Nat.le_of_ble_eq_true rfl⟩ (fun H locs hP hS _ _ => ?_)
        refine kV_v (w2 := wC g a n (if 0 < p then lclose (lclose (w3 s 7 nd 0 1) ((w3 s 7 nd 0 1) 0 0 p)) ((w3 s 7 nd 0 1) 0 0 (p - 1)) else lclose (w3 s 7 nd 0 1) ((w3 s 7 nd 0 1) 0 0 p))) (As := [.int (nI p)]) (b := a 0) (rest := []) (A1 := A) hfx (c_X3_closeLinksAt l hA hn6 (s := (w3 s 7 nd 0 1)) (p := p) (hs.m7 (by omega)) (by simp [w3]; omega)) (cwV 1 hts gX3_fail_X3_closeLinksAt rfl rfl rfl (by decide +kernel) ⟨by decide, by decide⟩) (va_recv hC.1 hP (ci := 3) rfl (wC_obj)) hC hP hS (fun _ h => h) rfl hl.1 rfl (Nat.le_of_ble_eq_true rfl) dX3_fail_56 ⟨Nat.le_of_ble_eq_true rfl, Nat.le_of_ble_eq_true rfl⟩ (fun H locs hP hS _ _ => ?_)
        refine k_ic (x := 1) hx hb dX3_fail_59 (by decide) ?_
        exact k_zret hx hb hr hlk (by rfl) (by decide) hP hS dX3_fail_60
      · exfalso; omega
  · exfalso; omega
set_option maxHeartbeats 4000000 in
set_option maxRecDepth 100000 in
/-- repair -/
theorem c_X3_repair (l : Launch) {g : GG} {a : Nat → Nat} {n : Nat} {A : Nat → Prop} (hA : Ap A a (5 + 7 * n)) (hn6 : n ≤ 6) {s : CS} (hs : Sh n s) (hk : 1 ≤ (tko s (s 1 0 0)).2) (hle : (outS s) 6 ((outS s) 0 0 ((outS s) 1 0 0 - 1)) 0 ≤ (outS s) 5 ((outS s) 0 0 ((outS s) 1 0 0 - 1)) 0) : Met l yX3_repair wsX3_repair ({ frames := 4, cells := 0, slots := 0, locals := 87 }) (pC g [.ref (a 0)] (wC g a n s)) (qI g (nI (s 1 0 0 - (outS s) 1 0 0)) (wC g a n (repS s)) A) 0 0 A := by
  refine k_start (cc := cX3_repair) (maxL := 3) (ret := (some .int)) (by decide) rfl (Nat.le_of_ble_eq_true rfl) ?_
  intro pr en s0 m args below meth cd hx hb hml hr hlk hts hown hin hC hP ls hl
  have hS : va_S A s0.heap s0.heap [] := va_S.rf
  have hfx : CallFix pr m cd cX3_repair 3 s0 args wsX3_repair RX3 := ⟨hx, hb, hml, hown, hts⟩
  have hu3 : ∀ w ∈ wsX30, w.before args s0 = true := fun w h => hts w ((by decide +kernel : ∀ w ∈ wsX30, w ∈ wsX3_repair) w h)
  have hl : lv_has ls 3 [(0, .ref (a 0))] := hl
  have f0 := hs.len
  have fo := hs.out hk
  have f1 := fo.len
  have f2 := hs.ch (s 1 0 0 - 1) (by omega)
  have f3 := fo.ch ((outS s) 1 0 0 - 1) (by omega)
  have f4 : (outS s) 1 0 0 ≤ s 1 0 0 := by show w3 _ 1 0 0 _ 1 0 0 ≤ _; rw [w3_eq]; exact tko_le s _
  refine lv_aload_n hx hb dX3_repair_0 rfl (lv_at hl 0 rfl) ?_
  refine va_get (D := g.1) (C := RX3) (T := TX3) (N := 6) (ci := 3) hx hb hu3 (fun _ h => h) hown hC.1 hP _ (wC_obj) rfl 2 (by decide) (hts (.fieldLink RX3 29 "SplicedChain" "chainLength" "I") (by decide +kernel)) (fun _ h9 => h9) rfl dX3_repair_1 ?_
  refine lv_istore_n (lv' := [(1, .int (nI (s 1 0 0))), (0, .ref (a 0))]) hx hb dX3_repair_4 rfl hl (by decide) rfl (fun ls hl => ?_)
  refine lv_aload_n hx hb dX3_repair_5 rfl (lv_at hl 1 rfl) ?_
  refine kV_i (r := nI (s 0 0 (s 1 0 0 - 1))) (w2 := wC g a n s) (As := []) (b := a 0) (rest := []) (A1 := A) hfx (c_X3_tail l hA hn6 (s := s) (L := s 1 0 0) (rfl) (f0)) (cwV 0 hts gX3_repair_X3_tail rfl rfl rfl (by decide +kernel) ⟨by decide, by decide⟩) (va_recv hC.1 hP (ci := 3) rfl (wC_obj)) hC hP hS (fun _ h => h) rfl hl.1 rfl (Nat.le_of_ble_eq_true rfl) dX3_repair_6 ⟨Nat.le_of_ble_eq_true rfl, Nat.le_of_ble_eq_true rfl⟩ (fun H locs hP hS _ _ => ?_)
  refine lv_istore_n (lv' := [(2, .int (nI (s 0 0 (s 1 0 0 - 1)))), (1, .int (nI (s 1 0 0))), (0, .ref (a 0))]) hx hb dX3_repair_9 rfl hl (by decide) rfl (fun ls hl => ?_)
  refine lv_aload_n hx hb dX3_repair_10 rfl (lv_at hl 2 rfl) ?_
  refine kV_v (w2 := wC g a n (outS s)) (As := []) (b := a 0) (rest := []) (A1 := A) hfx (c_X3_takeOutFailed l hA hn6 (s := s) (hs)) (cwV 0 hts gX3_repair_X3_takeOutFailed rfl rfl rfl (by decide +kernel) ⟨by decide, by decide⟩) (va_recv hC.1 hP (ci := 3) rfl (wC_obj)) hC hP hS (fun _ h => h) rfl hl.1 rfl (Nat.le_of_ble_eq_true rfl) dX3_repair_11 ⟨Nat.le_of_ble_eq_true rfl, Nat.le_of_ble_eq_true rfl⟩ (fun H locs hP hS _ _ => ?_)
  refine lv_aload_n hx hb dX3_repair_14 rfl (lv_at hl 2 rfl) ?_
  refine kV_i (r := nI ((outS s) 0 0 ((outS s) 1 0 0 - 1))) (w2 := wC g a n (outS s)) (As := []) (b := a 0) (rest := []) (A1 := A) hfx (c_X3_tail l hA hn6 (s := (outS s)) (L := (outS s) 1 0 0) (rfl) (f1)) (cwV 0 hts gX3_repair_X3_tail rfl rfl rfl (by decide +kernel) ⟨by decide, by decide⟩) (va_recv hC.1 hP (ci := 3) rfl (wC_obj)) hC hP hS (fun _ h => h) rfl hl.1 rfl (Nat.le_of_ble_eq_true rfl) dX3_repair_15 ⟨Nat.le_of_ble_eq_true rfl, Nat.le_of_ble_eq_true rfl⟩ (fun H locs hP hS _ _ => ?_)
  refine lv_iload_n hx hb dX3_repair_18 rfl (lv_at hl 0 rfl) ?_
  refine k_icmp_eq (tgt := 26) hx hb dX3_repair_19 (by decide) (by omega) (by omega) (fun c19 => ?_) (fun c19 => ?_)
  · skip
    refine lv_iload_n hx hb dX3_repair_26 rfl (lv_at hl 1 rfl) ?_
    refine lv_aload_n hx hb dX3_repair_27 rfl (lv_at hl 2 rfl) ?_
    refine va_get (D := g.1) (C := RX3) (T := TX3) (N := 6) (ci := 3) hx hb hu3 (fun _ h => h) hown hC.1 hP _ (wC_obj) rfl 2 (by decide) (hts (.fieldLink RX3 29 "SplicedChain" "chainLength" "I") (by decide +kernel)) (fun _ h9 => h9) rfl dX3_repair_28 ?_
    refine k_isub (x := s 1 0 0) (y := (outS s) 1 0 0) hx hb (by first | omega | (rw [ackAll_1]; omega)) dX3_repair_31 ?_
    exact k_iret hx hb hr hlk (by first | rfl | rw [ackAll_1]) (P_eq (congrArg (wC g a n) (by simp only [repS]; first | rw [if_pos c19] | rw [if_neg c19])) hP) hS dX3_repair_32
  · skip
    refine lv_aload_n hx hb dX3_repair_22 rfl (lv_at hl 2 rfl) ?_
    refine kV_v (w2 := wC g a n (ackAll (outS s))) (As := []) (b := a 0) (rest := []) (A1 := A) hfx (c_X3_acknowledgeAllSentAtTail l hA hn6 (s := (outS s)) (fo) (hle)) (cwV 0 hts gX3_repair_X3_acknowledgeAllSentAtTail rfl rfl rfl (by decide +kernel) ⟨by decide, by decide⟩) (va_recv hC.1 hP (ci := 3) rfl (wC_obj)) hC hP hS (fun _ h => h) rfl hl.1 rfl (Nat.le_of_ble_eq_true rfl) dX3_repair_23 ⟨Nat.le_of_ble_eq_true rfl, Nat.le_of_ble_eq_true rfl⟩ (fun H locs hP hS _ _ => ?_)
    refine lv_iload_n hx hb dX3_repair_26 rfl (lv_at hl 1 rfl) ?_
    refine lv_aload_n hx hb dX3_repair_27 rfl (lv_at hl 2 rfl) ?_
    refine va_get (D := g.1) (C := RX3) (T := TX3) (N := 6) (ci := 3) hx hb hu3 (fun _ h => h) hown hC.1 hP _ (wC_obj) rfl 2 (by decide) (hts (.fieldLink RX3 29 "SplicedChain" "chainLength" "I") (by decide +kernel)) (fun _ h9 => h9) rfl dX3_repair_28 ?_
    refine k_isub (x := s 1 0 0) (y := (ackAll (outS s)) 1 0 0) hx hb (by first | omega | (rw [ackAll_1]; omega)) dX3_repair_31 ?_
    exact k_iret hx hb hr hlk (by first | rfl | rw [ackAll_1]) (P_eq (congrArg (wC g a n) (by simp only [repS]; first | rw [if_pos c19] | rw [if_neg c19])) hP) hS dX3_repair_32
set_option maxHeartbeats 4000000 in
set_option maxRecDepth 100000 in
/-- valueAt -/
theorem c_X3_valueAt (l : Launch) {g : GG} {a : Nat → Nat} {n : Nat} {A : Nat → Prop} (hA : Ap A a (5 + 7 * n)) (hn6 : n ≤ 6) {s : CS} {nd j : Nat} (hnd : nd < n) (hj : j < 8) : Met l yX3_valueAt wsX3_valueAt ({ frames := 1, cells := 0, slots := 0, locals := 21 }) (pC g [.ref (a 0), .int (nI nd), .int (nI j)] (wC g a n s)) (qI g (nI (s 12 nd j)) (wC g a n s) A) 0 0 A := by
  refine k_start (cc := cX3_valueAt) (maxL := 3) (ret := (some .int)) (by decide) rfl (Nat.le_of_ble_eq_true rfl) ?_
  intro pr en s0 m args below meth cd hx hb hml hr hlk hts hown hin hC hP ls hl
  have hS : va_S A s0.heap s0.heap [] := va_S.rf
  have hfx : CallFix pr m cd cX3_valueAt 3 s0 args wsX3_valueAt RX3 := ⟨hx, hb, hml, hown, hts⟩
  have hu3 : ∀ w ∈ wsX30, w.before args s0 = true := fun w h => hts w ((by decide +kernel : ∀ w ∈ wsX30, w ∈ wsX3_valueAt) w h)
  have hu1 : ∀ w ∈ wsX10, w.before args s0 = true := fun w h => hts w ((by decide +kernel : ∀ w ∈ wsX10, w ∈ wsX3_valueAt) w h)
  have hl : lv_has ls 3 [(0, .ref (a 0)), (1, .int (nI nd)), (2, .int (nI j))] := hl
  refine lv_aload_n hx hb dX3_valueAt_0 rfl (lv_at hl 0 rfl) ?_
  refine lv_iload_n hx hb dX3_valueAt_1 rfl (lv_at hl 1 rfl) ?_
  refine kV_i (r := nI 1) (w2 := wC g a n s) (As := [.int (nI nd)]) (b := a 0) (rest := []) (A1 := A) hfx (c_X3_isNode l hA hn6 (s := s) (j := nd) (by omega)) (cwV 1 hts gX3_valueAt_X3_isNode rfl rfl rfl (by decide +kernel) ⟨by decide, by decide⟩) (va_recv hC.1 hP (ci := 3) rfl (wC_obj)) hC hP hS (fun _ h => h) rfl hl.1 rfl (Nat.le_of_ble_eq_true rfl) dX3_valueAt_2 ⟨Nat.le_of_ble_eq_true rfl, Nat.le_of_ble_eq_true rfl⟩ (fun H locs hP hS _ _ => ?_)
  refine k_if_eq (tgt := 15) hx hb dX3_valueAt_5 (by decide) (by omega) (fun c5 => ?_) (fun c5 => ?_)
  · exfalso; omega
  · skip
    refine lv_iload_n hx hb dX3_valueAt_8 rfl (lv_at hl 2 rfl) ?_
    refine kS_i (r := nI 1) (w2 := wC g a n s) (As := [.int (nI j)]) (rest := []) (A1 := A) hfx (c_X3_isKey l hA hn6 (s := s) (j := j) (by omega)) (va_cwS 1 hts gX3_valueAt_X3_isKey rfl rfl rfl (by decide +kernel) ⟨by decide, by decide⟩) hC hP hS (fun _ h => h) rfl hl.1 rfl (Nat.le_of_ble_eq_true rfl) dX3_valueAt_9 ⟨Nat.le_of_ble_eq_true rfl, Nat.le_of_ble_eq_true rfl⟩ (fun H locs hP hS _ _ => ?_)
    refine k_if_ne (tgt := 25) hx hb dX3_valueAt_12 (by decide) (by omega) (fun c12 => ?_) (fun c12 => ?_)
    · skip
      refine lv_aload_n hx hb dX3_valueAt_25 rfl (lv_at hl 0 rfl) ?_
      refine va_get (D := g.1) (C := RX3) (T := TX3) (N := 6) (ci := 3) hx hb hu3 (fun _ h => h) hown hC.1 hP _ (wC_obj) rfl 0 (by decide) (hts (.fieldLink RX3 22 "SplicedChain" "nodes" "[LSplicedChain$Node;") (by decide +kernel)) (fun _ h9 => h9) rfl dX3_valueAt_26 ?_
      refine lv_iload_n hx hb dX3_valueAt_29 rfl (lv_at hl 1 rfl) ?_
      refine k_aald (x := a (7 * nd + 5)) hx hb hC hP _ (wC_nodes) (j := nd) (by omega) (by omega) (by simp; omega) dX3_valueAt_30 ?_
      refine va_getN (D := g.1) (C := RX1) (T := TX1) (N := 5) (ci := 1) hx hb hu1 (fun _ h => h) hown hC.1 hP _ (wC_node (i := nd) (by omega)) rfl 0 (by decide) (hC.F (i := 66) (r := RX1) (n := "values") (d := "[I") (by decide +kernel)) (fun _ h9 => h9) rfl dX3_valueAt_31 ?_
      refine lv_iload_n hx hb dX3_valueAt_34 rfl (lv_at hl 2 rfl) ?_
      refine k_iald hx hb hC hP _ (wC_vals (i := nd) (by omega)) (j := j) (by omega) (by omega) dX3_valueAt_35 ?_
      exact k_iret hx hb hr hlk (by rfl) hP hS dX3_valueAt_36
    · exfalso; omega
set_option maxHeartbeats 4000000 in
set_option maxRecDepth 100000 in
/-- history -/
theorem c_X3_history (l : Launch) {g : GG} {a : Nat → Nat} {n : Nat} {A : Nat → Prop} (hA : Ap A a (5 + 7 * n)) (hn6 : n ≤ 6) {s : CS} {nd : Nat} (hnd : nd < n) : Met l yX3_history wsX3_history ({ frames := 1, cells := 0, slots := 0, locals := 21 }) (pC g [.ref (a 0), .int (nI nd)] (wC g a n s)) (qI g (nI (s 5 nd 0)) (wC g a n s) A) 0 0 A := by
  refine k_start (cc := cX3_history) (maxL := 2) (ret := (some .int)) (by decide) rfl (Nat.le_of_ble_eq_true rfl) ?_
  intro pr en s0 m args below meth cd hx hb hml hr hlk hts hown hin hC hP ls hl
  have hS : va_S A s0.heap s0.heap [] := va_S.rf
  have hfx : CallFix pr m cd cX3_history 2 s0 args wsX3_history RX3 := ⟨hx, hb, hml, hown, hts⟩
  have hu3 : ∀ w ∈ wsX30, w.before args s0 = true := fun w h => hts w ((by decide +kernel : ∀ w ∈ wsX30, w ∈ wsX3_history) w h)
  have hu1 : ∀ w ∈ wsX10, w.before args s0 = true := fun w h => hts w ((by decide +kernel : ∀ w ∈ wsX10, w ∈ wsX3_history) w h)
  have hl : lv_has ls 2 [(0, .ref (a 0)), (1, .int (nI nd))] := hl
  refine lv_aload_n hx hb dX3_history_0 rfl (lv_at hl 0 rfl) ?_
  refine lv_iload_n hx hb dX3_history_1 rfl (lv_at hl 1 rfl) ?_
  refine kV_i (r := nI 1) (w2 := wC g a n s) (As := [.int (nI nd)]) (b := a 0) (rest := []) (A1 := A) hfx (c_X3_isNode l hA hn6 (s := s) (j := nd) (by omega)) (cwV 1 hts gX3_history_X3_isNode rfl rfl rfl (by decide +kernel) ⟨by decide, by decide⟩) (va_recv hC.1 hP (ci := 3) rfl (wC_obj)) hC hP hS (fun _ h => h) rfl hl.1 rfl (Nat.le_of_ble_eq_true rfl) dX3_history_2 ⟨Nat.le_of_ble_eq_true rfl, Nat.le_of_ble_eq_true rfl⟩ (fun H locs hP hS _ _ => ?_)
  refine k_if_ne (tgt := 18) hx hb dX3_history_5 (by decide) (by omega) (fun c5 => ?_) (fun c5 => ?_)
  · skip
    refine lv_aload_n hx hb dX3_history_18 rfl (lv_at hl 0 rfl) ?_
    refine va_get (D := g.1) (C := RX3) (T := TX3) (N := 6) (ci := 3) hx hb hu3 (fun _ h => h) hown hC.1 hP _ (wC_obj) rfl 0 (by decide) (hts (.fieldLink RX3 22 "SplicedChain" "nodes" "[LSplicedChain$Node;") (by decide +kernel)) (fun _ h9 => h9) rfl dX3_history_19 ?_
    refine lv_iload_n hx hb dX3_history_22 rfl (lv_at hl 1 rfl) ?_
    refine k_aald (x := a (7 * nd + 5)) hx hb hC hP _ (wC_nodes) (j := nd) (by omega) (by omega) (by simp; omega) dX3_history_23 ?_
    refine va_getN (D := g.1) (C := RX1) (T := TX1) (N := 5) (ci := 1) hx hb hu1 (fun _ h => h) hown hC.1 hP _ (wC_node (i := nd) (by omega)) rfl 2 (by decide) (hC.F (i := 52) (r := RX1) (n := "history") (d := "I") (by decide +kernel)) (fun _ h9 => h9) rfl dX3_history_24 ?_
    exact k_iret hx hb hr hlk (by rfl) hP hS dX3_history_27
  · exfalso; omega
set_option maxHeartbeats 4000000 in
set_option maxRecDepth 100000 in
/-- sent -/
theorem c_X3_sent (l : Launch) {g : GG} {a : Nat → Nat} {n : Nat} {A : Nat → Prop} (hA : Ap A a (5 + 7 * n)) (hn6 : n ≤ 6) {s : CS} {nd : Nat} (hnd : nd < n) (hle : s 6 nd 0 ≤ s 5 nd 0) : Met l yX3_sent wsX3_sent ({ frames := 1, cells := 0, slots := 0, locals := 21 }) (pC g [.ref (a 0), .int (nI nd)] (wC g a n s)) (qI g (nI (s 5 nd 0 - s 6 nd 0)) (wC g a n s) A) 0 0 A := by
  refine k_start (cc := cX3_sent) (maxL := 2) (ret := (some .int)) (by decide) rfl (Nat.le_of_ble_eq_true rfl) ?_
  intro pr en s0 m args below meth cd hx hb hml hr hlk hts hown hin hC hP ls hl
  have hS : va_S A s0.heap s0.heap [] := va_S.rf
  have hfx : CallFix pr m cd cX3_sent 2 s0 args wsX3_sent RX3 := ⟨hx, hb, hml, hown, hts⟩
  have hu3 : ∀ w ∈ wsX30, w.before args s0 = true := fun w h => hts w ((by decide +kernel : ∀ w ∈ wsX30, w ∈ wsX3_sent) w h)
  have hu1 : ∀ w ∈ wsX10, w.before args s0 = true := fun w h => hts w ((by decide +kernel : ∀ w ∈ wsX10, w ∈ wsX3_sent) w h)
  have hl : lv_has ls 2 [(0, .ref (a 0)), (1, .int (nI nd))] := hl
  refine lv_aload_n hx hb dX3_sent_0 rfl (lv_at hl 0 rfl) ?_
  refine lv_iload_n hx hb dX3_sent_1 rfl (lv_at hl 1 rfl) ?_
  refine kV_i (r := nI 1) (w2 := wC g a n s) (As := [.int (nI nd)]) (b := a 0) (rest := []) (A1 := A) hfx (c_X3_isNode l hA hn6 (s := s) (j := nd) (by omega)) (cwV 1 hts gX3_sent_X3_isNode rfl rfl rfl (by decide +kernel) ⟨by decide, by decide⟩) (va_recv hC.1 hP (ci := 3) rfl (wC_obj)) hC hP hS (fun _ h => h) rfl hl.1 rfl (Nat.le_of_ble_eq_true rfl) dX3_sent_2 ⟨Nat.le_of_ble_eq_true rfl, Nat.le_of_ble_eq_true rfl⟩ (fun H locs hP hS _ _ => ?_)
  refine k_if_ne (tgt := 18) hx hb dX3_sent_5 (by decide) (by omega) (fun c5 => ?_) (fun c5 => ?_)
  · skip
    refine lv_aload_n hx hb dX3_sent_18 rfl (lv_at hl 0 rfl) ?_
    refine va_get (D := g.1) (C := RX3) (T := TX3) (N := 6) (ci := 3) hx hb hu3 (fun _ h => h) hown hC.1 hP _ (wC_obj) rfl 0 (by decide) (hts (.fieldLink RX3 22 "SplicedChain" "nodes" "[LSplicedChain$Node;") (by decide +kernel)) (fun _ h9 => h9) rfl dX3_sent_19 ?_
    refine lv_iload_n hx hb dX3_sent_22 rfl (lv_at hl 1 rfl) ?_
    refine k_aald (x := a (7 * nd + 5)) hx hb hC hP _ (wC_nodes) (j := nd) (by omega) (by omega) (by simp; omega) dX3_sent_23 ?_
    refine va_getN (D := g.1) (C := RX1) (T := TX1) (N := 5) (ci := 1) hx hb hu1 (fun _ h => h) hown hC.1 hP _ (wC_node (i := nd) (by omega)) rfl 2 (by decide) (hC.F (i := 52) (r := RX1) (n := "history") (d := "I") (by decide +kernel)) (fun _ h9 => h9) rfl dX3_sent_24 ?_
    refine lv_aload_n hx hb dX3_sent_27 rfl (lv_at hl 0 rfl) ?_
    refine va_get (D := g.1) (C := RX3) (T := TX3) (N := 6) (ci := 3) hx hb hu3 (fun _ h => h) hown hC.1 hP _ (wC_obj) rfl 0 (by decide) (hts (.fieldLink RX3 22 "SplicedChain" "nodes" "[LSplicedChain$Node;") (by decide +kernel)) (fun _ h9 => h9) rfl dX3_sent_28 ?_
    refine lv_iload_n hx hb dX3_sent_31 rfl (lv_at hl 1 rfl) ?_
    refine k_aald (x := a (7 * nd + 5)) hx hb hC hP _ (wC_nodes) (j := nd) (by omega) (by omega) (by simp; omega) dX3_sent_32 ?_
    refine va_getN (D := g.1) (C := RX1) (T := TX1) (N := 5) (ci := 1) hx hb hu1 (fun _ h => h) hown hC.1 hP _ (wC_node (i := nd) (by omega)) rfl 3 (by decide) (hC.F (i := 139) (r := RX1) (n := "acknowledged") (d := "I") (by decide +kernel)) (fun _ h9 => h9) rfl dX3_sent_33 ?_
    refine k_isub (x := s 5 nd 0) (y := s 6 nd 0) hx hb (by omega) dX3_sent_36 ?_
    exact k_iret hx hb hr hlk (by rfl) hP hS dX3_sent_37
  · exfalso; omega
set_option maxHeartbeats 4000000 in
set_option maxRecDepth 100000 in
/-- waiting -/
theorem c_X3_waiting (l : Launch) {g : GG} {a : Nat → Nat} {n : Nat} {A : Nat → Prop} (hA : Ap A a (5 + 7 * n)) (hn6 : n ≤ 6) {s : CS} {p nd : Nat} (hs : Sh n s) (hnd : nd < n) (hp : p < s 1 0 0) (hpe : s 0 0 p = nd) (hf : ∀ k, k < p → s 0 0 k ≠ nd) : Met l yX3_waiting wsX3_waiting ({ frames := 2, cells := 0, slots := 0, locals := 43 }) (pC g [.ref (a 0), .int (nI nd)] (wC g a n s)) (qI g (nI ((if 0 < p then s 10 (2 * s 0 0 (p - 1) + 0) 0 else 0) + 100 * (if p + 1 = s 1 0 0 then 0 else s 10 (2 * s 0 0 p + 1) 0))) (wC g a n s) A) 0 0 A := by
  refine k_start (cc := cX3_waiting) (maxL := 3) (ret := (some .int)) (by decide) rfl (Nat.le_of_ble_eq_true rfl) ?_
  intro pr en s0 m args below meth cd hx hb hml hr hlk hts hown hin hC hP ls hl
  have hS : va_S A s0.heap s0.heap [] := va_S.rf
  have hfx : CallFix pr m cd cX3_waiting 3 s0 args wsX3_waiting RX3 := ⟨hx, hb, hml, hown, hts⟩
  have hl : lv_has ls 3 [(0, .ref (a 0)), (1, .int (nI nd))] := hl
  refine lv_aload_n hx hb dX3_waiting_0 rfl (lv_at hl 0 rfl) ?_
  refine lv_iload_n hx hb dX3_waiting_1 rfl (lv_at hl 1 rfl) ?_
  refine kV_i (r := nI 1) (w2 := wC g a n s) (As := [.int (nI nd)]) (b := a 0) (rest := []) (A1 := A) hfx (c_X3_isNode l hA hn6 (s := s) (j := nd) (by omega)) (cwV 1 hts gX3_waiting_X3_isNode rfl rfl rfl (by decide +kernel) ⟨by decide, by decide⟩) (va_recv hC.1 hP (ci := 3) rfl (wC_obj)) hC hP hS (fun _ h => h) rfl hl.1 rfl (Nat.le_of_ble_eq_true rfl) dX3_waiting_2 ⟨Nat.le_of_ble_eq_true rfl, Nat.le_of_ble_eq_true rfl⟩ (fun H locs hP hS _ _ => ?_)
  refine k_if_ne (tgt := 18) hx hb dX3_waiting_5 (by decide) (by omega) (fun c5 => ?_) (fun c5 => ?_)
  · skip
    refine lv_aload_n hx hb dX3_waiting_18 rfl (lv_at hl 0 rfl) ?_
    refine lv_iload_n hx hb dX3_waiting_19 rfl (lv_at hl 1 rfl) ?_
    refine kV_i (r := nI p) (w2 := wC g a n s) (As := [.int (nI nd)]) (b := a 0) (rest := []) (A1 := A) hfx (c_X3_positionOf l hA hn6 (s := s) (p := p) (nd := nd) (hs) (by omega) (hp) (hpe) (hf)) (cwV 1 hts gX3_waiting_X3_positionOf rfl rfl rfl (by decide +kernel) ⟨by decide, by decide⟩) (va_recv hC.1 hP (ci := 3) rfl (wC_obj)) hC hP hS (fun _ h => h) rfl hl.1 rfl (Nat.le_of_ble_eq_true rfl) dX3_waiting_20 ⟨Nat.le_of_ble_eq_true rfl, Nat.le_of_ble_eq_true rfl⟩ (fun H locs hP hS _ _ => ?_)
    refine lv_istore_n (lv' := [(2, .int (nI p)), (0, .ref (a 0)), (1, .int (nI nd))]) hx hb dX3_waiting_23 rfl hl (by decide) rfl (fun ls hl => ?_)
    refine lv_aload_n hx hb dX3_waiting_24 rfl (lv_at hl 1 rfl) ?_
    refine lv_iload_n hx hb dX3_waiting_25 rfl (lv_at hl 0 rfl) ?_
    refine kV_i (r := nI (if 0 < p then s 10 (2 * s 0 0 (p - 1) + 0) 0 else 0)) (w2 := wC g a n s) (As := [.int (nI p)]) (b := a 0) (rest := []) (A1 := A) hfx (c_X3_updatesTowards l hA hn6 (s := s) (p := p) (hs) (by omega)) (cwV 1 hts gX3_waiting_X3_updatesTowards rfl rfl rfl (by decide +kernel) ⟨by decide, by decide⟩) (va_recv hC.1 hP (ci := 3) rfl (wC_obj)) hC hP hS (fun _ h => h) rfl hl.1 rfl (Nat.le_of_ble_eq_true rfl) dX3_waiting_26 ⟨Nat.le_of_ble_eq_true rfl, Nat.le_of_ble_eq_true rfl⟩ (fun H locs hP hS _ _ => ?_)
    refine k_bi (x := 100) hx hb dX3_waiting_29 (by decide) ?_
    refine lv_aload_n hx hb dX3_waiting_31 rfl (lv_at hl 1 rfl) ?_
    refine lv_iload_n hx hb dX3_waiting_32 rfl (lv_at hl 0 rfl) ?_
    refine kV_i (r := nI (if p + 1 = s 1 0 0 then 0 else s 10 (2 * s 0 0 p + 1) 0)) (w2 := wC g a n s) (As := [.int (nI p)]) (b := a 0) (rest := [.int (nI 100), .int (nI (if 0 < p then s 10 (2 * s 0 0 (p - 1) + 0) 0 else 0))]) (A1 := A) hfx (c_X3_acknowledgementsTowards l hA hn6 (s := s) (p := p) (hs) (by omega)) (cwV 1 hts gX3_waiting_X3_acknowledgementsTowards rfl rfl rfl (by decide +kernel) ⟨by decide, by decide⟩) (va_recv hC.1 hP (ci := 3) rfl (wC_obj)) hC hP hS (fun _ h => h) rfl hl.1 rfl (Nat.le_of_ble_eq_true rfl) dX3_waiting_33 ⟨Nat.le_of_ble_eq_true rfl, Nat.le_of_ble_eq_true rfl⟩ (fun H locs hP hS _ _ => ?_)
    refine k_imul (x := 100) (y := if p + 1 = s 1 0 0 then 0 else s 10 (2 * s 0 0 p + 1) 0) hx hb dX3_waiting_36 ?_
    refine k_iadd (x := if 0 < p then s 10 (2 * s 0 0 (p - 1) + 0) 0 else 0) (y := 100 * (if p + 1 = s 1 0 0 then 0 else s 10 (2 * s 0 0 p + 1) 0)) hx hb dX3_waiting_37 ?_
    exact k_iret hx hb hr hlk (by rfl) hP hS dX3_waiting_38
  · exfalso; omega
set_option maxHeartbeats 4000000 in
set_option maxRecDepth 100000 in
/-- waiting: out of the chain -/
theorem c_X3_waiting_no (l : Launch) {g : GG} {a : Nat → Nat} {n : Nat} {A : Nat → Prop} (hA : Ap A a (5 + 7 * n)) (hn6 : n ≤ 6) {s : CS} {nd : Nat} (hs : Sh n s) (hnd : nd < n) (hno : ∀ k, k < s 1 0 0 → s 0 0 k ≠ nd) : Met l yX3_waiting wsX3_waiting ({ frames := 2, cells := 0, slots := 0, locals := 43 }) (pC g [.ref (a 0), .int (nI nd)] (wC g a n s)) (qI g (nI 0) (wC g a n s) A) 0 0 A := by
  refine k_start (cc := cX3_waiting) (maxL := 3) (ret := (some .int)) (by decide) rfl (Nat.le_of_ble_eq_true rfl) ?_
  intro pr en s0 m args below meth cd hx hb hml hr hlk hts hown hin hC hP ls hl
  have hS : va_S A s0.heap s0.heap [] := va_S.rf
  have hfx : CallFix pr m cd cX3_waiting 3 s0 args wsX3_waiting RX3 := ⟨hx, hb, hml, hown, hts⟩
  have hl : lv_has ls 3 [(0, .ref (a 0)), (1, .int (nI nd))] := hl
  refine lv_aload_n hx hb dX3_waiting_0 rfl (lv_at hl 0 rfl) ?_
  refine lv_iload_n hx hb dX3_waiting_1 rfl (lv_at hl 1 rfl) ?_
  refine kV_i (r := nI 1) (w2 := wC g a n s) (As := [.int (nI nd)]) (b := a 0) (rest := []) (A1 := A) hfx (c_X3_isNode l hA hn6 (s := s) (j := nd) (by omega)) (cwV 1 hts gX3_waiting_X3_isNode rfl rfl rfl (by decide +kernel) ⟨by decide, by decide⟩) (va_recv hC.1 hP (ci := 3) rfl (wC_obj)) hC hP hS (fun _ h => h) rfl hl.1 rfl (Nat.le_of_ble_eq_true rfl) dX3_waiting_2 ⟨Nat.le_of_ble_eq_true rfl, Nat.le_of_ble_eq_true rfl⟩ (fun H locs hP hS _ _ => ?_)
  refine k_if_ne (tgt := 18) hx hb dX3_waiting_5 (by decide) (by omega) (fun c5 => ?_) (fun c5 => ?_)
  · skip
    refine lv_aload_n hx hb dX3_waiting_18 rfl (lv_at hl 0 rfl) ?_
    refine lv_iload_n hx hb dX3_waiting_19 rfl (lv_at hl 1 rfl) ?_
    refine kV_i (r := -1) (w2 := wC g a n s) (As := [.int (nI nd)]) (b := a 0) (rest := []) (A1 := A) hfx (c_X3_positionOf_no l hA hn6 (s := s) (nd := nd) (hs) (by omega) (hno)) (cwV 1 hts gX3_waiting_X3_positionOf rfl rfl rfl (by decide +kernel) ⟨by decide, by decide⟩) (va_recv hC.1 hP (ci := 3) rfl (wC_obj)) hC hP hS (fun _ h => h) rfl hl.1 rfl (Nat.le_of_ble_eq_true rfl) dX3_waiting_20 ⟨Nat.le_of_ble_eq_true rfl, Nat.le_of_ble_eq_true rfl⟩ (fun H locs hP hS _ _ => ?_)
    refine lv_istore_n (lv' := [(2, .int (-1)), (0, .ref (a 0)), (1, .int (nI nd))]) hx hb dX3_waiting_23 rfl hl (by decide) rfl (fun ls hl => ?_)
    refine lv_aload_n hx hb dX3_waiting_24 rfl (lv_at hl 1 rfl) ?_
    refine lv_iload_n hx hb dX3_waiting_25 rfl (lv_at hl 0 rfl) ?_
    refine kV_i (r := nI 0) (w2 := wC g a n s) (As := [.int (-1)]) (b := a 0) (rest := []) (A1 := A) hfx (c_X3_updatesTowards_no l hA hn6 (s := s)) (cwV 1 hts gX3_waiting_X3_updatesTowards rfl rfl rfl (by decide +kernel) ⟨by decide, by decide⟩) (va_recv hC.1 hP (ci := 3) rfl (wC_obj)) hC hP hS (fun _ h => h) rfl hl.1 rfl (Nat.le_of_ble_eq_true rfl) dX3_waiting_26 ⟨Nat.le_of_ble_eq_true rfl, Nat.le_of_ble_eq_true rfl⟩ (fun H locs hP hS _ _ => ?_)
    refine k_bi (x := 100) hx hb dX3_waiting_29 (by decide) ?_
    refine lv_aload_n hx hb dX3_waiting_31 rfl (lv_at hl 1 rfl) ?_
    refine lv_iload_n hx hb dX3_waiting_32 rfl (lv_at hl 0 rfl) ?_
    refine kV_i (r := nI 0) (w2 := wC g a n s) (As := [.int (-1)]) (b := a 0) (rest := [.int (nI 100), .int (nI 0)]) (A1 := A) hfx (c_X3_acknowledgementsTowards_no l hA hn6 (s := s)) (cwV 1 hts gX3_waiting_X3_acknowledgementsTowards rfl rfl rfl (by decide +kernel) ⟨by decide, by decide⟩) (va_recv hC.1 hP (ci := 3) rfl (wC_obj)) hC hP hS (fun _ h => h) rfl hl.1 rfl (Nat.le_of_ble_eq_true rfl) dX3_waiting_33 ⟨Nat.le_of_ble_eq_true rfl, Nat.le_of_ble_eq_true rfl⟩ (fun H locs hP hS _ _ => ?_)
    refine k_imul (x := 100) (y := 0) hx hb dX3_waiting_36 ?_
    refine k_iadd (x := 0) (y := 100 * 0) hx hb dX3_waiting_37 ?_
    exact k_iret hx hb hr hlk (by rfl) hP hS dX3_waiting_38
  · exfalso; omega
