set_option maxHeartbeats 4000000 in
set_option maxRecDepth 100000 in
/-- write throws:  -/
theorem x_X3_write_1 (l : Launch) (hlt : l.stackTraces = false) {g : GG} {sa : Nat → Nat} {a : Nat → Nat} {n : Nat} {A : Nat → Prop} (hA : Ap A a (5 + 7 * n)) (hn6 : n ≤ 6) {s : CS} {x : Int32} {v : Nat} (hbadk : x < 0 ∨ nI 8 ≤ x) : vx_Met l yX3_write wsX3_write ({ frames := 6, cells := 1, slots := 6, locals := 87 }) (pT g sa A [.ref (a 0), .int (x), .int (nI v)] (wC g a n s)) (qF A) (xC g eIA (wC g a n s) A) 1 6 A := by
  refine k_startX (cc := cX3_write) (maxL := 5) (ret := (some .int)) (by decide) rfl (Nat.le_of_ble_eq_true rfl) ?_
  intro pr en s0 m args below meth cd hx hb hml hr hlk hts hown hin hC hP hT hnt ls hl
  have hS : va_S A s0.heap s0.heap [] := va_S.rf
  have hfx : CallFix pr m cd cX3_write 5 s0 args wsX3_write RX3 := ⟨hx, hb, hml, hown, hts⟩
  have hg_ia : ∀ w ∈ (vx_atS RX3 41 eIA nm2).filter goodWord, w.before args s0 = true := fun w h => hts w (List.mem_cons_of_mem _ (List.mem_append_left _ (List.mem_append_right _ h)))
  have hu3 : ∀ w ∈ wsX30, w.before args s0 = true := fun w h => hts w ((by decide +kernel : ∀ w ∈ wsX30, w ∈ wsX3_write) w h)
  have hu1 : ∀ w ∈ wsX10, w.before args s0 = true := fun w h => hts w ((by decide +kernel : ∀ w ∈ wsX10, w ∈ wsX3_write) w h)
  have hl : lv_has ls 5 [(0, .ref (a 0)), (1, .int (x)), (2, .int (nI v))] := hl
  refine lv_iload_n hx hb dX3_write_0 rfl (lv_at hl 1 rfl) ?_
  refine kS_i (r := nI 0) (w2 := wC g a n s) (As := [.int (x)]) (rest := []) (A1 := A) hfx (c_X3_isKey_no l hA hn6 (s := s) (x := x) hbadk) (va_cwS 1 hts gX3_write_X3_isKey rfl rfl rfl (by decide +kernel) ⟨by decide, by decide⟩) hC hP hS (fun _ h => h) rfl hl.1 rfl (Nat.le_of_ble_eq_true rfl) dX3_write_1 ⟨Nat.le_of_ble_eq_true rfl, Nat.le_of_ble_eq_true rfl⟩ (fun H locs hP hS _ _ => ?_)
  refine k_if_ne (tgt := 17) hx hb dX3_write_4 (by decide) (by omega) (fun c4 => ?_) (fun c4 => ?_)
  · exfalso; omega
  · skip
    exact k_ia (is := 39) (text := "no such key") hx hb hlt hown (hts (.classLink RX3 37 eIA) (by decide +kernel)) (hts (.initialized eIA) (by decide +kernel)) (by decide +kernel) hg_ia hT hP hS (hl.1.trans hml.symm) dX3_write_7 dX3_write_10 dX3_write_11 dX3_write_13 dX3_write_16 hnt (by decide) (Nat.le_of_ble_eq_true rfl) (by decide) (by decide) hlk (by decide) (by decide)
set_option maxHeartbeats 4000000 in
set_option maxRecDepth 100000 in
/-- write throws:  -/
theorem x_X3_write_2 (l : Launch) (hlt : l.stackTraces = false) {g : GG} {sa : Nat → Nat} {a : Nat → Nat} {n : Nat} {A : Nat → Prop} (hA : Ap A a (5 + 7 * n)) (hn6 : n ≤ 6) {s : CS} {j v : Nat} (hs : Sh n s) (hj : j < 8) (hbad : s 7 (s 0 0 0) 0 ≠ 0 ∨ 40 ≤ s 5 (s 0 0 0) 0) : vx_Met l yX3_write wsX3_write ({ frames := 6, cells := 1, slots := 6, locals := 87 }) (pT g sa A [.ref (a 0), .int (nI j), .int (nI v)] (wC g a n s)) (qF A) (xC g eIS (wC g a n s) A) 1 6 A := by
  refine k_startX (cc := cX3_write) (maxL := 5) (ret := (some .int)) (by decide) rfl (Nat.le_of_ble_eq_true rfl) ?_
  intro pr en s0 m args below meth cd hx hb hml hr hlk hts hown hin hC hP hT hnt ls hl
  have hS : va_S A s0.heap s0.heap [] := va_S.rf
  have hfx : CallFix pr m cd cX3_write 5 s0 args wsX3_write RX3 := ⟨hx, hb, hml, hown, hts⟩
  have hg_is : ∀ w ∈ (vx_atS RX3 59 eIS nm2).filter goodWord, w.before args s0 = true := fun w h => hts w (List.mem_cons_of_mem _ (List.mem_append_right _ h))
  have hu3 : ∀ w ∈ wsX30, w.before args s0 = true := fun w h => hts w ((by decide +kernel : ∀ w ∈ wsX30, w ∈ wsX3_write) w h)
  have hu1 : ∀ w ∈ wsX10, w.before args s0 = true := fun w h => hts w ((by decide +kernel : ∀ w ∈ wsX10, w ∈ wsX3_write) w h)
  have hl : lv_has ls 5 [(0, .ref (a 0)), (1, .int (nI j)), (2, .int (nI v))] := hl
  have f0 := hs.len
  have f1 := hs.ch 0 (by omega)
  have f2 := hs.nd _ f1
  refine lv_iload_n hx hb dX3_write_0 rfl (lv_at hl 1 rfl) ?_
  refine kS_i (r := nI 1) (w2 := wC g a n s) (As := [.int (nI j)]) (rest := []) (A1 := A) hfx (c_X3_isKey l hA hn6 (s := s) (j := j) (by omega)) (va_cwS 1 hts gX3_write_X3_isKey rfl rfl rfl (by decide +kernel) ⟨by decide, by decide⟩) hC hP hS (fun _ h => h) rfl hl.1 rfl (Nat.le_of_ble_eq_true rfl) dX3_write_1 ⟨Nat.le_of_ble_eq_true rfl, Nat.le_of_ble_eq_true rfl⟩ (fun H locs hP hS _ _ => ?_)
  refine k_if_ne (tgt := 17) hx hb dX3_write_4 (by decide) (by omega) (fun c4 => ?_) (fun c4 => ?_)
  · skip
    refine lv_aload_n hx hb dX3_write_17 rfl (lv_at hl 0 rfl) ?_
    refine k_ic (x := 0) hx hb dX3_write_18 (by decide) ?_
    refine kV_r (r := a (7 * (s 0 0 0) + 5)) (w2 := wC g a n s) (As := [.int (nI 0)]) (b := a 0) (rest := []) (A1 := A) hfx (c_X3_nodeAt l hA hn6 (s := s) (p := 0) (x := s 0 0 0) (rfl) (by omega) (by omega)) (cwV 1 hts gX3_write_X3_nodeAt rfl rfl rfl (by decide +kernel) ⟨by decide, by decide⟩) (va_recv hC.1 hP (ci := 3) rfl (wC_obj)) hC hP hS (fun _ h => h) rfl hl.1 rfl (Nat.le_of_ble_eq_true rfl) dX3_write_19 ⟨Nat.le_of_ble_eq_true rfl, Nat.le_of_ble_eq_true rfl⟩ (fun H locs hP hS _ _ => ?_)
    refine lv_astore_n (lv' := [(3, .ref (a (7 * (s 0 0 0) + 5))), (0, .ref (a 0)), (1, .int (nI j)), (2, .int (nI v))]) hx hb dX3_write_22 rfl hl (by decide) rfl (fun ls hl => ?_)
    refine lv_aload_n hx hb dX3_write_23 rfl (lv_at hl 0 rfl) ?_
    refine va_getN (D := g.1) (C := RX1) (T := TX1) (N := 5) (ci := 1) hx hb hu1 (fun _ h => h) hown hC.1 hP _ (wC_node (i := (s 0 0 0)) (by omega)) rfl 4 (by decide) (hC.F (i := 48) (r := RX1) (n := "failed") (d := "Z") (by decide +kernel)) (fun _ h9 => h9) rfl dX3_write_24 ?_
    refine k_if_ne (tgt := 39) hx hb dX3_write_27 (by decide) (by omega) (fun c27 => ?_) (fun c27 => ?_)
    · skip
      exact k_is (is := 57) (text := "the head has failed or its history is full") hx hb hlt hown (hts (.classLink RX3 55 eIS) (by decide +kernel)) (hts (.initialized eIS) (by decide +kernel)) (by decide +kernel) hg_is hT hP hS (hl.1.trans hml.symm) dX3_write_39 dX3_write_42 dX3_write_43 dX3_write_45 dX3_write_48 hnt (by decide) (Nat.le_of_ble_eq_true rfl) (by decide) (by decide) hlk (by decide) (by decide)
    · skip
      refine lv_aload_n hx hb dX3_write_30 rfl (lv_at hl 0 rfl) ?_
      refine va_getN (D := g.1) (C := RX1) (T := TX1) (N := 5) (ci := 1) hx hb hu1 (fun _ h => h) hown hC.1 hP _ (wC_node (i := (s 0 0 0)) (by omega)) rfl 2 (by decide) (hC.F (i := 52) (r := RX1) (n := "history") (d := "I") (by decide +kernel)) (fun _ h9 => h9) rfl dX3_write_31 ?_
      refine k_bi (x := 40) hx hb dX3_write_34 (by decide) ?_
      refine k_icmp_lt (tgt := 49) hx hb dX3_write_36 (by decide) (by omega) (by omega) (fun c36 => ?_) (fun c36 => ?_)
      · exfalso; omega
      · skip
        exact k_is (is := 57) (text := "the head has failed or its history is full") hx hb hlt hown (hts (.classLink RX3 55 eIS) (by decide +kernel)) (hts (.initialized eIS) (by decide +kernel)) (by decide +kernel) hg_is hT hP hS (hl.1.trans hml.symm) dX3_write_39 dX3_write_42 dX3_write_43 dX3_write_45 dX3_write_48 hnt (by decide) (Nat.le_of_ble_eq_true rfl) (by decide) (by decide) hlk (by decide) (by decide)
  · exfalso; omega
set_option maxHeartbeats 4000000 in
set_option maxRecDepth 100000 in
/-- read throws:  -/
theorem x_X3_read_1 (l : Launch) (hlt : l.stackTraces = false) {g : GG} {sa : Nat → Nat} {a : Nat → Nat} {n : Nat} {A : Nat → Prop} (hA : Ap A a (5 + 7 * n)) (hn6 : n ≤ 6) {s : CS} {x : Int32} (hbadk : x < 0 ∨ nI 8 ≤ x) : vx_Met l yX3_read wsX3_read ({ frames := 6, cells := 1, slots := 6, locals := 82 }) (pT g sa A [.ref (a 0), .int (x)] (wC g a n s)) (qF A) (xC g eIA (wC g a n s) A) 1 6 A := by
  refine k_startX (cc := cX3_read) (maxL := 3) (ret := (some .int)) (by decide) rfl (Nat.le_of_ble_eq_true rfl) ?_
  intro pr en s0 m args below meth cd hx hb hml hr hlk hts hown hin hC hP hT hnt ls hl
  have hS : va_S A s0.heap s0.heap [] := va_S.rf
  have hfx : CallFix pr m cd cX3_read 3 s0 args wsX3_read RX3 := ⟨hx, hb, hml, hown, hts⟩
  have hg_ia : ∀ w ∈ (vx_atS RX3 41 eIA nm2).filter goodWord, w.before args s0 = true := fun w h => hts w (List.mem_cons_of_mem _ (List.mem_append_left _ (List.mem_append_right _ h)))
  have hu3 : ∀ w ∈ wsX30, w.before args s0 = true := fun w h => hts w ((by decide +kernel : ∀ w ∈ wsX30, w ∈ wsX3_read) w h)
  have hu1 : ∀ w ∈ wsX10, w.before args s0 = true := fun w h => hts w ((by decide +kernel : ∀ w ∈ wsX10, w ∈ wsX3_read) w h)
  have hl : lv_has ls 3 [(0, .ref (a 0)), (1, .int (x))] := hl
  refine lv_iload_n hx hb dX3_read_0 rfl (lv_at hl 1 rfl) ?_
  refine kS_i (r := nI 0) (w2 := wC g a n s) (As := [.int (x)]) (rest := []) (A1 := A) hfx (c_X3_isKey_no l hA hn6 (s := s) (x := x) hbadk) (va_cwS 1 hts gX3_read_X3_isKey rfl rfl rfl (by decide +kernel) ⟨by decide, by decide⟩) hC hP hS (fun _ h => h) rfl hl.1 rfl (Nat.le_of_ble_eq_true rfl) dX3_read_1 ⟨Nat.le_of_ble_eq_true rfl, Nat.le_of_ble_eq_true rfl⟩ (fun H locs hP hS _ _ => ?_)
  refine k_if_ne (tgt := 17) hx hb dX3_read_4 (by decide) (by omega) (fun c4 => ?_) (fun c4 => ?_)
  · exfalso; omega
  · skip
    exact k_ia (is := 39) (text := "no such key") hx hb hlt hown (hts (.classLink RX3 37 eIA) (by decide +kernel)) (hts (.initialized eIA) (by decide +kernel)) (by decide +kernel) hg_ia hT hP hS (hl.1.trans hml.symm) dX3_read_7 dX3_read_10 dX3_read_11 dX3_read_13 dX3_read_16 hnt (by decide) (Nat.le_of_ble_eq_true rfl) (by decide) (by decide) hlk (by decide) (by decide)
set_option maxHeartbeats 4000000 in
set_option maxRecDepth 100000 in
/-- read throws:  -/
theorem x_X3_read_2 (l : Launch) (hlt : l.stackTraces = false) {g : GG} {sa : Nat → Nat} {a : Nat → Nat} {n : Nat} {A : Nat → Prop} (hA : Ap A a (5 + 7 * n)) (hn6 : n ≤ 6) {s : CS} {j : Nat} (hs : Sh n s) (hj : j < 8) (hfl : s 7 (s 0 0 (s 1 0 0 - 1)) 0 ≠ 0) : vx_Met l yX3_read wsX3_read ({ frames := 6, cells := 1, slots := 6, locals := 82 }) (pT g sa A [.ref (a 0), .int (nI j)] (wC g a n s)) (qF A) (xC g eIS (wC g a n s) A) 1 6 A := by
  refine k_startX (cc := cX3_read) (maxL := 3) (ret := (some .int)) (by decide) rfl (Nat.le_of_ble_eq_true rfl) ?_
  intro pr en s0 m args below meth cd hx hb hml hr hlk hts hown hin hC hP hT hnt ls hl
  have hS : va_S A s0.heap s0.heap [] := va_S.rf
  have hfx : CallFix pr m cd cX3_read 3 s0 args wsX3_read RX3 := ⟨hx, hb, hml, hown, hts⟩
  have hg_is : ∀ w ∈ (vx_atS RX3 59 eIS nm2).filter goodWord, w.before args s0 = true := fun w h => hts w (List.mem_cons_of_mem _ (List.mem_append_right _ h))
  have hu3 : ∀ w ∈ wsX30, w.before args s0 = true := fun w h => hts w ((by decide +kernel : ∀ w ∈ wsX30, w ∈ wsX3_read) w h)
  have hu1 : ∀ w ∈ wsX10, w.before args s0 = true := fun w h => hts w ((by decide +kernel : ∀ w ∈ wsX10, w ∈ wsX3_read) w h)
  have hl : lv_has ls 3 [(0, .ref (a 0)), (1, .int (nI j))] := hl
  have f0 := hs.len
  have f1 := hs.ch (s 1 0 0 - 1) (by omega)
  have f2 := hs.nd _ f1
  refine lv_iload_n hx hb dX3_read_0 rfl (lv_at hl 1 rfl) ?_
  refine kS_i (r := nI 1) (w2 := wC g a n s) (As := [.int (nI j)]) (rest := []) (A1 := A) hfx (c_X3_isKey l hA hn6 (s := s) (j := j) (by omega)) (va_cwS 1 hts gX3_read_X3_isKey rfl rfl rfl (by decide +kernel) ⟨by decide, by decide⟩) hC hP hS (fun _ h => h) rfl hl.1 rfl (Nat.le_of_ble_eq_true rfl) dX3_read_1 ⟨Nat.le_of_ble_eq_true rfl, Nat.le_of_ble_eq_true rfl⟩ (fun H locs hP hS _ _ => ?_)
  refine k_if_ne (tgt := 17) hx hb dX3_read_4 (by decide) (by omega) (fun c4 => ?_) (fun c4 => ?_)
  · skip
    refine lv_aload_n hx hb dX3_read_17 rfl (lv_at hl 0 rfl) ?_
    refine lv_aload_n hx hb dX3_read_18 rfl (lv_at hl 0 rfl) ?_
    refine va_get (D := g.1) (C := RX3) (T := TX3) (N := 6) (ci := 3) hx hb hu3 (fun _ h => h) hown hC.1 hP _ (wC_obj) rfl 2 (by decide) (hts (.fieldLink RX3 29 "SplicedChain" "chainLength" "I") (by decide +kernel)) (fun _ h9 => h9) rfl dX3_read_19 ?_
    refine k_ic (x := 1) hx hb dX3_read_22 (by decide) ?_
    refine k_isub (x := s 1 0 0) (y := 1) hx hb (by omega) dX3_read_23 ?_
    refine kV_r (r := a (7 * (s 0 0 ((s 1 0 0) - 1)) + 5)) (w2 := wC g a n s) (As := [.int (nI ((s 1 0 0) - 1))]) (b := a 0) (rest := []) (A1 := A) hfx (c_X3_nodeAt l hA hn6 (s := s) (p := (s 1 0 0) - 1) (x := s 0 0 ((s 1 0 0) - 1)) (rfl) (by omega) (by omega)) (cwV 1 hts gX3_read_X3_nodeAt rfl rfl rfl (by decide +kernel) ⟨by decide, by decide⟩) (va_recv hC.1 hP (ci := 3) rfl (wC_obj)) hC hP hS (fun _ h => h) rfl hl.1 rfl (Nat.le_of_ble_eq_true rfl) dX3_read_24 ⟨Nat.le_of_ble_eq_true rfl, Nat.le_of_ble_eq_true rfl⟩ (fun H locs hP hS _ _ => ?_)
    refine lv_astore_n (lv' := [(2, .ref (a (7 * (s 0 0 ((s 1 0 0) - 1)) + 5))), (0, .ref (a 0)), (1, .int (nI j))]) hx hb dX3_read_27 rfl hl (by decide) rfl (fun ls hl => ?_)
    refine lv_aload_n hx hb dX3_read_28 rfl (lv_at hl 0 rfl) ?_
    refine va_getN (D := g.1) (C := RX1) (T := TX1) (N := 5) (ci := 1) hx hb hu1 (fun _ h => h) hown hC.1 hP _ (wC_node (i := (s 0 0 ((s 1 0 0) - 1))) (by omega)) rfl 4 (by decide) (hC.F (i := 48) (r := RX1) (n := "failed") (d := "Z") (by decide +kernel)) (fun _ h9 => h9) rfl dX3_read_29 ?_
    refine k_if_eq (tgt := 45) hx hb dX3_read_32 (by decide) (by omega) (fun c32 => ?_) (fun c32 => ?_)
    · exfalso; omega
    · skip
      exact k_is (is := 64) (text := "the tail has failed") hx hb hlt hown (hts (.classLink RX3 55 eIS) (by decide +kernel)) (hts (.initialized eIS) (by decide +kernel)) (by decide +kernel) hg_is hT hP hS (hl.1.trans hml.symm) dX3_read_35 dX3_read_38 dX3_read_39 dX3_read_41 dX3_read_44 hnt (by decide) (Nat.le_of_ble_eq_true rfl) (by decide) (by decide) hlk (by decide) (by decide)
  · exfalso; omega
set_option maxHeartbeats 4000000 in
set_option maxRecDepth 100000 in
/-- deliver throws:  -/
theorem x_X3_deliver_1 (l : Launch) (hlt : l.stackTraces = false) {g : GG} {sa : Nat → Nat} {a : Nat → Nat} {n : Nat} {A : Nat → Prop} (hA : Ap A a (5 + 7 * n)) (hn6 : n ≤ 6) {s : CS} {x : Int32} (hbad : x < 0 ∨ nI n ≤ x) : vx_Met l yX3_deliver wsX3_deliver ({ frames := 6, cells := 1, slots := 6, locals := 87 }) (pT g sa A [.ref (a 0), .int (x)] (wC g a n s)) (qF A) (xC g eIA (wC g a n s) A) 1 6 A := by
  refine k_startX (cc := cX3_deliver) (maxL := 4) (ret := (some .int)) (by decide) rfl (Nat.le_of_ble_eq_true rfl) ?_
  intro pr en s0 m args below meth cd hx hb hml hr hlk hts hown hin hC hP hT hnt ls hl
  have hS : va_S A s0.heap s0.heap [] := va_S.rf
  have hfx : CallFix pr m cd cX3_deliver 4 s0 args wsX3_deliver RX3 := ⟨hx, hb, hml, hown, hts⟩
  have hg_ia : ∀ w ∈ (vx_atS RX3 41 eIA nm2).filter goodWord, w.before args s0 = true := fun w h => hts w (List.mem_cons_of_mem _ (List.mem_append_left _ (List.mem_append_left _ (List.mem_append_right _ h))))
  have hu3 : ∀ w ∈ wsX30, w.before args s0 = true := fun w h => hts w ((by decide +kernel : ∀ w ∈ wsX30, w ∈ wsX3_deliver) w h)
  have hu1 : ∀ w ∈ wsX10, w.before args s0 = true := fun w h => hts w ((by decide +kernel : ∀ w ∈ wsX10, w ∈ wsX3_deliver) w h)
  have hl : lv_has ls 4 [(0, .ref (a 0)), (1, .int (x))] := hl
  refine lv_aload_n hx hb dX3_deliver_0 rfl (lv_at hl 0 rfl) ?_
  refine lv_iload_n hx hb dX3_deliver_1 rfl (lv_at hl 1 rfl) ?_
  refine kV_i (r := nI 0) (w2 := wC g a n s) (As := [.int (x)]) (b := a 0) (rest := []) (A1 := A) hfx (c_X3_isNode_no l hA hn6 (s := s) (x := x) hbad) (cwV 1 hts gX3_deliver_X3_isNode rfl rfl rfl (by decide +kernel) ⟨by decide, by decide⟩) (va_recv hC.1 hP (ci := 3) rfl (wC_obj)) hC hP hS (fun _ h => h) rfl hl.1 rfl (Nat.le_of_ble_eq_true rfl) dX3_deliver_2 ⟨Nat.le_of_ble_eq_true rfl, Nat.le_of_ble_eq_true rfl⟩ (fun H locs hP hS _ _ => ?_)
  refine k_if_ne (tgt := 18) hx hb dX3_deliver_5 (by decide) (by omega) (fun c5 => ?_) (fun c5 => ?_)
  · exfalso; omega
  · skip
    exact k_ia (is := 72) (text := "no such node") hx hb hlt hown (hts (.classLink RX3 37 eIA) (by decide +kernel)) (hts (.initialized eIA) (by decide +kernel)) (by decide +kernel) hg_ia hT hP hS (hl.1.trans hml.symm) dX3_deliver_8 dX3_deliver_11 dX3_deliver_12 dX3_deliver_14 dX3_deliver_17 hnt (by decide) (Nat.le_of_ble_eq_true rfl) (by decide) (by decide) hlk (by decide) (by decide)
set_option maxHeartbeats 4000000 in
set_option maxRecDepth 100000 in
/-- deliver throws:  -/
theorem x_X3_deliver_2 (l : Launch) (hlt : l.stackTraces = false) {g : GG} {sa : Nat → Nat} {a : Nat → Nat} {n : Nat} {A : Nat → Prop} (hA : Ap A a (5 + 7 * n)) (hn6 : n ≤ 6) {s : CS} {nd : Nat} (hs : Sh n s) (hnd : nd < n) (hfl : s 7 nd 0 ≠ 0) : vx_Met l yX3_deliver wsX3_deliver ({ frames := 6, cells := 1, slots := 6, locals := 87 }) (pT g sa A [.ref (a 0), .int (nI nd)] (wC g a n s)) (qF A) (xC g eIS (wC g a n s) A) 1 6 A := by
  refine k_startX (cc := cX3_deliver) (maxL := 4) (ret := (some .int)) (by decide) rfl (Nat.le_of_ble_eq_true rfl) ?_
  intro pr en s0 m args below meth cd hx hb hml hr hlk hts hown hin hC hP hT hnt ls hl
  have hS : va_S A s0.heap s0.heap [] := va_S.rf
  have hfx : CallFix pr m cd cX3_deliver 4 s0 args wsX3_deliver RX3 := ⟨hx, hb, hml, hown, hts⟩
  have hg_is : ∀ w ∈ (vx_atS RX3 59 eIS nm2).filter goodWord, w.before args s0 = true := fun w h => hts w (List.mem_cons_of_mem _ (List.mem_append_left _ (List.mem_append_right _ h)))
  have hu3 : ∀ w ∈ wsX30, w.before args s0 = true := fun w h => hts w ((by decide +kernel : ∀ w ∈ wsX30, w ∈ wsX3_deliver) w h)
  have hu1 : ∀ w ∈ wsX10, w.before args s0 = true := fun w h => hts w ((by decide +kernel : ∀ w ∈ wsX10, w ∈ wsX3_deliver) w h)
  have hl : lv_has ls 4 [(0, .ref (a 0)), (1, .int (nI nd))] := hl
  have f2 := hs.nd nd hnd
  refine lv_aload_n hx hb dX3_deliver_0 rfl (lv_at hl 0 rfl) ?_
  refine lv_iload_n hx hb dX3_deliver_1 rfl (lv_at hl 1 rfl) ?_
  refine kV_i (r := nI 1) (w2 := wC g a n s) (As := [.int (nI nd)]) (b := a 0) (rest := []) (A1 := A) hfx (c_X3_isNode l hA hn6 (s := s) (j := nd) (by omega)) (cwV 1 hts gX3_deliver_X3_isNode rfl rfl rfl (by decide +kernel) ⟨by decide, by decide⟩) (va_recv hC.1 hP (ci := 3) rfl (wC_obj)) hC hP hS (fun _ h => h) rfl hl.1 rfl (Nat.le_of_ble_eq_true rfl) dX3_deliver_2 ⟨Nat.le_of_ble_eq_true rfl, Nat.le_of_ble_eq_true rfl⟩ (fun H locs hP hS _ _ => ?_)
  refine k_if_ne (tgt := 18) hx hb dX3_deliver_5 (by decide) (by omega) (fun c5 => ?_) (fun c5 => ?_)
  · skip
    refine lv_aload_n hx hb dX3_deliver_18 rfl (lv_at hl 0 rfl) ?_
    refine va_get (D := g.1) (C := RX3) (T := TX3) (N := 6) (ci := 3) hx hb hu3 (fun _ h => h) hown hC.1 hP _ (wC_obj) rfl 0 (by decide) (hts (.fieldLink RX3 22 "SplicedChain" "nodes" "[LSplicedChain$Node;") (by decide +kernel)) (fun _ h9 => h9) rfl dX3_deliver_19 ?_
    refine lv_iload_n hx hb dX3_deliver_22 rfl (lv_at hl 1 rfl) ?_
    refine k_aald (x := a (7 * nd + 5)) hx hb hC hP _ (wC_nodes) (j := nd) (by omega) (by omega) (by simp; omega) dX3_deliver_23 ?_
    refine va_getN (D := g.1) (C := RX1) (T := TX1) (N := 5) (ci := 1) hx hb hu1 (fun _ h => h) hown hC.1 hP _ (wC_node (i := nd) (by omega)) rfl 4 (by decide) (hC.F (i := 48) (r := RX1) (n := "failed") (d := "Z") (by decide +kernel)) (fun _ h9 => h9) rfl dX3_deliver_24 ?_
    refine k_if_eq (tgt := 40) hx hb dX3_deliver_27 (by decide) (by omega) (fun c27 => ?_) (fun c27 => ?_)
    · exfalso; omega
    · skip
      exact k_is (is := 74) (text := "the node has failed") hx hb hlt hown (hts (.classLink RX3 55 eIS) (by decide +kernel)) (hts (.initialized eIS) (by decide +kernel)) (by decide +kernel) hg_is hT hP hS (hl.1.trans hml.symm) dX3_deliver_30 dX3_deliver_33 dX3_deliver_34 dX3_deliver_36 dX3_deliver_39 hnt (by decide) (Nat.le_of_ble_eq_true rfl) (by decide) (by decide) hlk (by decide) (by decide)
  · exfalso; omega
set_option maxHeartbeats 4000000 in
set_option maxRecDepth 100000 in
/-- deliver throws:  -/
theorem x_X3_deliver_3 (l : Launch) (hlt : l.stackTraces = false) {g : GG} {sa : Nat → Nat} {a : Nat → Nat} {n : Nat} {A : Nat → Prop} (hA : Ap A a (5 + 7 * n)) (hn6 : n ≤ 6) {s : CS} {p nd : Nat} (hs : Sh n s) (hnd : nd < n) (hp : p < s 1 0 0) (hpe : s 0 0 p = nd) (hf : ∀ k, k < p → s 0 0 k ≠ nd) (hfl : s 7 nd 0 = 0) (hz : (if 0 < p then s 10 (2 * s 0 0 (p - 1) + 0) 0 else 0) = 0) : vx_Met l yX3_deliver wsX3_deliver ({ frames := 6, cells := 1, slots := 6, locals := 87 }) (pT g sa A [.ref (a 0), .int (nI nd)] (wC g a n s)) (qF A) (xC g nx_n (wC g a n s) A) 1 6 A := by
  refine k_startX (cc := cX3_deliver) (maxL := 4) (ret := (some .int)) (by decide) rfl (Nat.le_of_ble_eq_true rfl) ?_
  intro pr en s0 m args below meth cd hx hb hml hr hlk hts hown hin hC hP hT hnt ls hl
  have hS : va_S A s0.heap s0.heap [] := va_S.rf
  have hfx : CallFix pr m cd cX3_deliver 4 s0 args wsX3_deliver RX3 := ⟨hx, hb, hml, hown, hts⟩
  have hg_ns : ∀ w ∈ (nx_atS RX3 87).filter goodWord, w.before args s0 = true := fun w h => hts w (List.mem_cons_of_mem _ (List.mem_append_right _ h))
  have hu3 : ∀ w ∈ wsX30, w.before args s0 = true := fun w h => hts w ((by decide +kernel : ∀ w ∈ wsX30, w ∈ wsX3_deliver) w h)
  have hu1 : ∀ w ∈ wsX10, w.before args s0 = true := fun w h => hts w ((by decide +kernel : ∀ w ∈ wsX10, w ∈ wsX3_deliver) w h)
  have hl : lv_has ls 4 [(0, .ref (a 0)), (1, .int (nI nd))] := hl
  refine lv_aload_n hx hb dX3_deliver_0 rfl (lv_at hl 0 rfl) ?_
  refine lv_iload_n hx hb dX3_deliver_1 rfl (lv_at hl 1 rfl) ?_
  refine kV_i (r := nI 1) (w2 := wC g a n s) (As := [.int (nI nd)]) (b := a 0) (rest := []) (A1 := A) hfx (c_X3_isNode l hA hn6 (s := s) (j := nd) (by omega)) (cwV 1 hts gX3_deliver_X3_isNode rfl rfl rfl (by decide +kernel) ⟨by decide, by decide⟩) (va_recv hC.1 hP (ci := 3) rfl (wC_obj)) hC hP hS (fun _ h => h) rfl hl.1 rfl (Nat.le_of_ble_eq_true rfl) dX3_deliver_2 ⟨Nat.le_of_ble_eq_true rfl, Nat.le_of_ble_eq_true rfl⟩ (fun H locs hP hS _ _ => ?_)
  refine k_if_ne (tgt := 18) hx hb dX3_deliver_5 (by decide) (by omega) (fun c5 => ?_) (fun c5 => ?_)
  · skip
    refine lv_aload_n hx hb dX3_deliver_18 rfl (lv_at hl 0 rfl) ?_
    refine va_get (D := g.1) (C := RX3) (T := TX3) (N := 6) (ci := 3) hx hb hu3 (fun _ h => h) hown hC.1 hP _ (wC_obj) rfl 0 (by decide) (hts (.fieldLink RX3 22 "SplicedChain" "nodes" "[LSplicedChain$Node;") (by decide +kernel)) (fun _ h9 => h9) rfl dX3_deliver_19 ?_
    refine lv_iload_n hx hb dX3_deliver_22 rfl (lv_at hl 1 rfl) ?_
    refine k_aald (x := a (7 * nd + 5)) hx hb hC hP _ (wC_nodes) (j := nd) (by omega) (by omega) (by simp; omega) dX3_deliver_23 ?_
    refine va_getN (D := g.1) (C := RX1) (T := TX1) (N := 5) (ci := 1) hx hb hu1 (fun _ h => h) hown hC.1 hP _ (wC_node (i := nd) (by omega)) rfl 4 (by decide) (hC.F (i := 48) (r := RX1) (n := "failed") (d := "Z") (by decide +kernel)) (fun _ h9 => h9) rfl dX3_deliver_24 ?_
    refine k_if_eq (tgt := 40) hx hb dX3_deliver_27 (by decide) (by omega) (fun c27 => ?_) (fun c27 => ?_)
    · skip
      refine lv_aload_n hx hb dX3_deliver_40 rfl (lv_at hl 0 rfl) ?_
      refine lv_iload_n hx hb dX3_deliver_41 rfl (lv_at hl 1 rfl) ?_
      refine kV_i (r := nI p) (w2 := wC g a n s) (As := [.int (nI nd)]) (b := a 0) (rest := []) (A1 := A) hfx (c_X3_positionOf l hA hn6 (s := s) (p := p) (nd := nd) (hs) (by omega) (hp) (hpe) (hf)) (cwV 1 hts gX3_deliver_X3_positionOf rfl rfl rfl (by decide +kernel) ⟨by decide, by decide⟩) (va_recv hC.1 hP (ci := 3) rfl (wC_obj)) hC hP hS (fun _ h => h) rfl hl.1 rfl (Nat.le_of_ble_eq_true rfl) dX3_deliver_42 ⟨Nat.le_of_ble_eq_true rfl, Nat.le_of_ble_eq_true rfl⟩ (fun H locs hP hS _ _ => ?_)
      refine lv_istore_n (lv' := [(2, .int (nI p)), (0, .ref (a 0)), (1, .int (nI nd))]) hx hb dX3_deliver_45 rfl hl (by decide) rfl (fun ls hl => ?_)
      refine lv_aload_n hx hb dX3_deliver_46 rfl (lv_at hl 1 rfl) ?_
      refine lv_iload_n hx hb dX3_deliver_47 rfl (lv_at hl 0 rfl) ?_
      refine kV_i (r := nI (if 0 < p then s 10 (2 * s 0 0 (p - 1) + 0) 0 else 0)) (w2 := wC g a n s) (As := [.int (nI p)]) (b := a 0) (rest := []) (A1 := A) hfx (c_X3_updatesTowards l hA hn6 (s := s) (p := p) (hs) (by omega)) (cwV 1 hts gX3_deliver_X3_updatesTowards rfl rfl rfl (by decide +kernel) ⟨by decide, by decide⟩) (va_recv hC.1 hP (ci := 3) rfl (wC_obj)) hC hP hS (fun _ h => h) rfl hl.1 rfl (Nat.le_of_ble_eq_true rfl) dX3_deliver_48 ⟨Nat.le_of_ble_eq_true rfl, Nat.le_of_ble_eq_true rfl⟩ (fun H locs hP hS _ _ => ?_)
      rw [hz]
      refine k_if_ne (tgt := 64) hx hb dX3_deliver_51 (by decide) (by omega) (fun c51 => ?_) (fun c51 => ?_)
      · exfalso; omega
      · skip
        exact k_ns (is := 85) (text := "no update is on the link from the predecessor") hx hb hlt hown (hts (.classLink RX3 83 nx_n) (by decide +kernel)) (hts (.initialized nx_n) (by decide +kernel)) (by decide +kernel) hg_ns hT hP hS (hl.1.trans hml.symm) dX3_deliver_54 dX3_deliver_57 dX3_deliver_58 dX3_deliver_60 dX3_deliver_63 hnt (by decide) (Nat.le_of_ble_eq_true rfl) (by decide) (by decide) hlk (by decide) (by decide)
    · exfalso; omega
  · exfalso; omega
set_option maxHeartbeats 4000000 in
set_option maxRecDepth 100000 in
/-- acknowledge throws:  -/
theorem x_X3_acknowledge_1 (l : Launch) (hlt : l.stackTraces = false) {g : GG} {sa : Nat → Nat} {a : Nat → Nat} {n : Nat} {A : Nat → Prop} (hA : Ap A a (5 + 7 * n)) (hn6 : n ≤ 6) {s : CS} {x : Int32} (hbad : x < 0 ∨ nI n ≤ x) : vx_Met l yX3_acknowledge wsX3_acknowledge ({ frames := 6, cells := 1, slots := 6, locals := 82 }) (pT g sa A [.ref (a 0), .int (x)] (wC g a n s)) (qF A) (xC g eIA (wC g a n s) A) 1 6 A := by
  refine k_startX (cc := cX3_acknowledge) (maxL := 4) (ret := (some .int)) (by decide) rfl (Nat.le_of_ble_eq_true rfl) ?_
  intro pr en s0 m args below meth cd hx hb hml hr hlk hts hown hin hC hP hT hnt ls hl
  have hS : va_S A s0.heap s0.heap [] := va_S.rf
  have hfx : CallFix pr m cd cX3_acknowledge 4 s0 args wsX3_acknowledge RX3 := ⟨hx, hb, hml, hown, hts⟩
  have hg_ia : ∀ w ∈ (vx_atS RX3 41 eIA nm2).filter goodWord, w.before args s0 = true := fun w h => hts w (List.mem_cons_of_mem _ (List.mem_append_left _ (List.mem_append_left _ (List.mem_append_right _ h))))
  have hu3 : ∀ w ∈ wsX30, w.before args s0 = true := fun w h => hts w ((by decide +kernel : ∀ w ∈ wsX30, w ∈ wsX3_acknowledge) w h)
  have hu1 : ∀ w ∈ wsX10, w.before args s0 = true := fun w h => hts w ((by decide +kernel : ∀ w ∈ wsX10, w ∈ wsX3_acknowledge) w h)
  have hl : lv_has ls 4 [(0, .ref (a 0)), (1, .int (x))] := hl
  refine lv_aload_n hx hb dX3_acknowledge_0 rfl (lv_at hl 0 rfl) ?_
  refine lv_iload_n hx hb dX3_acknowledge_1 rfl (lv_at hl 1 rfl) ?_
  refine kV_i (r := nI 0) (w2 := wC g a n s) (As := [.int (x)]) (b := a 0) (rest := []) (A1 := A) hfx (c_X3_isNode_no l hA hn6 (s := s) (x := x) hbad) (cwV 1 hts gX3_acknowledge_X3_isNode rfl rfl rfl (by decide +kernel) ⟨by decide, by decide⟩) (va_recv hC.1 hP (ci := 3) rfl (wC_obj)) hC hP hS (fun _ h => h) rfl hl.1 rfl (Nat.le_of_ble_eq_true rfl) dX3_acknowledge_2 ⟨Nat.le_of_ble_eq_true rfl, Nat.le_of_ble_eq_true rfl⟩ (fun H locs hP hS _ _ => ?_)
  refine k_if_ne (tgt := 18) hx hb dX3_acknowledge_5 (by decide) (by omega) (fun c5 => ?_) (fun c5 => ?_)
  · exfalso; omega
  · skip
    exact k_ia (is := 72) (text := "no such node") hx hb hlt hown (hts (.classLink RX3 37 eIA) (by decide +kernel)) (hts (.initialized eIA) (by decide +kernel)) (by decide +kernel) hg_ia hT hP hS (hl.1.trans hml.symm) dX3_acknowledge_8 dX3_acknowledge_11 dX3_acknowledge_12 dX3_acknowledge_14 dX3_acknowledge_17 hnt (by decide) (Nat.le_of_ble_eq_true rfl) (by decide) (by decide) hlk (by decide) (by decide)
set_option maxHeartbeats 4000000 in
set_option maxRecDepth 100000 in
/-- acknowledge throws:  -/
theorem x_X3_acknowledge_2 (l : Launch) (hlt : l.stackTraces = false) {g : GG} {sa : Nat → Nat} {a : Nat → Nat} {n : Nat} {A : Nat → Prop} (hA : Ap A a (5 + 7 * n)) (hn6 : n ≤ 6) {s : CS} {nd : Nat} (hs : Sh n s) (hnd : nd < n) (hfl : s 7 nd 0 ≠ 0) : vx_Met l yX3_acknowledge wsX3_acknowledge ({ frames := 6, cells := 1, slots := 6, locals := 82 }) (pT g sa A [.ref (a 0), .int (nI nd)] (wC g a n s)) (qF A) (xC g eIS (wC g a n s) A) 1 6 A := by
  refine k_startX (cc := cX3_acknowledge) (maxL := 4) (ret := (some .int)) (by decide) rfl (Nat.le_of_ble_eq_true rfl) ?_
  intro pr en s0 m args below meth cd hx hb hml hr hlk hts hown hin hC hP hT hnt ls hl
  have hS : va_S A s0.heap s0.heap [] := va_S.rf
  have hfx : CallFix pr m cd cX3_acknowledge 4 s0 args wsX3_acknowledge RX3 := ⟨hx, hb, hml, hown, hts⟩
  have hg_is : ∀ w ∈ (vx_atS RX3 59 eIS nm2).filter goodWord, w.before args s0 = true := fun w h => hts w (List.mem_cons_of_mem _ (List.mem_append_left _ (List.mem_append_right _ h)))
  have hu3 : ∀ w ∈ wsX30, w.before args s0 = true := fun w h => hts w ((by decide +kernel : ∀ w ∈ wsX30, w ∈ wsX3_acknowledge) w h)
  have hu1 : ∀ w ∈ wsX10, w.before args s0 = true := fun w h => hts w ((by decide +kernel : ∀ w ∈ wsX10, w ∈ wsX3_acknowledge) w h)
  have hl : lv_has ls 4 [(0, .ref (a 0)), (1, .int (nI nd))] := hl
  have f2 := hs.nd nd hnd
  refine lv_aload_n hx hb dX3_acknowledge_0 rfl (lv_at hl 0 rfl) ?_
  refine lv_iload_n hx hb dX3_acknowledge_1 rfl (lv_at hl 1 rfl) ?_
  refine kV_i (r := nI 1) (w2 := wC g a n s) (As := [.int (nI nd)]) (b := a 0) (rest := []) (A1 := A) hfx (c_X3_isNode l hA hn6 (s := s) (j := nd) (by omega)) (cwV 1 hts gX3_acknowledge_X3_isNode rfl rfl rfl (by decide +kernel) ⟨by decide, by decide⟩) (va_recv hC.1 hP (ci := 3) rfl (wC_obj)) hC hP hS (fun _ h => h) rfl hl.1 rfl (Nat.le_of_ble_eq_true rfl) dX3_acknowledge_2 ⟨Nat.le_of_ble_eq_true rfl, Nat.le_of_ble_eq_true rfl⟩ (fun H locs hP hS _ _ => ?_)
  refine k_if_ne (tgt := 18) hx hb dX3_acknowledge_5 (by decide) (by omega) (fun c5 => ?_) (fun c5 => ?_)
  · skip
    refine lv_aload_n hx hb dX3_acknowledge_18 rfl (lv_at hl 0 rfl) ?_
    refine va_get (D := g.1) (C := RX3) (T := TX3) (N := 6) (ci := 3) hx hb hu3 (fun _ h => h) hown hC.1 hP _ (wC_obj) rfl 0 (by decide) (hts (.fieldLink RX3 22 "SplicedChain" "nodes" "[LSplicedChain$Node;") (by decide +kernel)) (fun _ h9 => h9) rfl dX3_acknowledge_19 ?_
    refine lv_iload_n hx hb dX3_acknowledge_22 rfl (lv_at hl 1 rfl) ?_
    refine k_aald (x := a (7 * nd + 5)) hx hb hC hP _ (wC_nodes) (j := nd) (by omega) (by omega) (by simp; omega) dX3_acknowledge_23 ?_
    refine va_getN (D := g.1) (C := RX1) (T := TX1) (N := 5) (ci := 1) hx hb hu1 (fun _ h => h) hown hC.1 hP _ (wC_node (i := nd) (by omega)) rfl 4 (by decide) (hC.F (i := 48) (r := RX1) (n := "failed") (d := "Z") (by decide +kernel)) (fun _ h9 => h9) rfl dX3_acknowledge_24 ?_
    refine k_if_eq (tgt := 40) hx hb dX3_acknowledge_27 (by decide) (by omega) (fun c27 => ?_) (fun c27 => ?_)
    · exfalso; omega
    · skip
      exact k_is (is := 74) (text := "the node has failed") hx hb hlt hown (hts (.classLink RX3 55 eIS) (by decide +kernel)) (hts (.initialized eIS) (by decide +kernel)) (by decide +kernel) hg_is hT hP hS (hl.1.trans hml.symm) dX3_acknowledge_30 dX3_acknowledge_33 dX3_acknowledge_34 dX3_acknowledge_36 dX3_acknowledge_39 hnt (by decide) (Nat.le_of_ble_eq_true rfl) (by decide) (by decide) hlk (by decide) (by decide)
  · exfalso; omega
set_option maxHeartbeats 4000000 in
set_option maxRecDepth 100000 in
/-- acknowledge throws:  -/
theorem x_X3_acknowledge_3 (l : Launch) (hlt : l.stackTraces = false) {g : GG} {sa : Nat → Nat} {a : Nat → Nat} {n : Nat} {A : Nat → Prop} (hA : Ap A a (5 + 7 * n)) (hn6 : n ≤ 6) {s : CS} {p nd : Nat} (hs : Sh n s) (hnd : nd < n) (hp : p < s 1 0 0) (hpe : s 0 0 p = nd) (hf : ∀ k, k < p → s 0 0 k ≠ nd) (hfl : s 7 nd 0 = 0) (hz : (if p + 1 = s 1 0 0 then 0 else s 10 (2 * s 0 0 p + 1) 0) = 0) : vx_Met l yX3_acknowledge wsX3_acknowledge ({ frames := 6, cells := 1, slots := 6, locals := 82 }) (pT g sa A [.ref (a 0), .int (nI nd)] (wC g a n s)) (qF A) (xC g nx_n (wC g a n s) A) 1 6 A := by
  refine k_startX (cc := cX3_acknowledge) (maxL := 4) (ret := (some .int)) (by decide) rfl (Nat.le_of_ble_eq_true rfl) ?_
  intro pr en s0 m args below meth cd hx hb hml hr hlk hts hown hin hC hP hT hnt ls hl
  have hS : va_S A s0.heap s0.heap [] := va_S.rf
  have hfx : CallFix pr m cd cX3_acknowledge 4 s0 args wsX3_acknowledge RX3 := ⟨hx, hb, hml, hown, hts⟩
  have hg_ns : ∀ w ∈ (nx_atS RX3 87).filter goodWord, w.before args s0 = true := fun w h => hts w (List.mem_cons_of_mem _ (List.mem_append_right _ h))
  have hu3 : ∀ w ∈ wsX30, w.before args s0 = true := fun w h => hts w ((by decide +kernel : ∀ w ∈ wsX30, w ∈ wsX3_acknowledge) w h)
  have hu1 : ∀ w ∈ wsX10, w.before args s0 = true := fun w h => hts w ((by decide +kernel : ∀ w ∈ wsX10, w ∈ wsX3_acknowledge) w h)
  have hl : lv_has ls 4 [(0, .ref (a 0)), (1, .int (nI nd))] := hl
  refine lv_aload_n hx hb dX3_acknowledge_0 rfl (lv_at hl 0 rfl) ?_
  refine lv_iload_n hx hb dX3_acknowledge_1 rfl (lv_at hl 1 rfl) ?_
  refine kV_i (r := nI 1) (w2 := wC g a n s) (As := [.int (nI nd)]) (b := a 0) (rest := []) (A1 := A) hfx (c_X3_isNode l hA hn6 (s := s) (j := nd) (by omega)) (cwV 1 hts gX3_acknowledge_X3_isNode rfl rfl rfl (by decide +kernel) ⟨by decide, by decide⟩) (va_recv hC.1 hP (ci := 3) rfl (wC_obj)) hC hP hS (fun _ h => h) rfl hl.1 rfl (Nat.le_of_ble_eq_true rfl) dX3_acknowledge_2 ⟨Nat.le_of_ble_eq_true rfl, Nat.le_of_ble_eq_true rfl⟩ (fun H locs hP hS _ _ => ?_)
  refine k_if_ne (tgt := 18) hx hb dX3_acknowledge_5 (by decide) (by omega) (fun c5 => ?_) (fun c5 => ?_)
  · skip
    refine lv_aload_n hx hb dX3_acknowledge_18 rfl (lv_at hl 0 rfl) ?_
    refine va_get (D := g.1) (C := RX3) (T := TX3) (N := 6) (ci := 3) hx hb hu3 (fun _ h => h) hown hC.1 hP _ (wC_obj) rfl 0 (by decide) (hts (.fieldLink RX3 22 "SplicedChain" "nodes" "[LSplicedChain$Node;") (by decide +kernel)) (fun _ h9 => h9) rfl dX3_acknowledge_19 ?_
    refine lv_iload_n hx hb dX3_acknowledge_22 rfl (lv_at hl 1 rfl) ?_
    refine k_aald (x := a (7 * nd + 5)) hx hb hC hP _ (wC_nodes) (j := nd) (by omega) (by omega) (by simp; omega) dX3_acknowledge_23 ?_
    refine va_getN (D := g.1) (C := RX1) (T := TX1) (N := 5) (ci := 1) hx hb hu1 (fun _ h => h) hown hC.1 hP _ (wC_node (i := nd) (by omega)) rfl 4 (by decide) (hC.F (i := 48) (r := RX1) (n := "failed") (d := "Z") (by decide +kernel)) (fun _ h9 => h9) rfl dX3_acknowledge_24 ?_
    refine k_if_eq (tgt := 40) hx hb dX3_acknowledge_27 (by decide) (by omega) (fun c27 => ?_) (fun c27 => ?_)
    · skip
      refine lv_aload_n hx hb dX3_acknowledge_40 rfl (lv_at hl 0 rfl) ?_
      refine lv_iload_n hx hb dX3_acknowledge_41 rfl (lv_at hl 1 rfl) ?_
      refine kV_i (r := nI p) (w2 := wC g a n s) (As := [.int (nI nd)]) (b := a 0) (rest := []) (A1 := A) hfx (c_X3_positionOf l hA hn6 (s := s) (p := p) (nd := nd) (hs) (by omega) (hp) (hpe) (hf)) (cwV 1 hts gX3_acknowledge_X3_positionOf rfl rfl rfl (by decide +kernel) ⟨by decide, by decide⟩) (va_recv hC.1 hP (ci := 3) rfl (wC_obj)) hC hP hS (fun _ h => h) rfl hl.1 rfl (Nat.le_of_ble_eq_true rfl) dX3_acknowledge_42 ⟨Nat.le_of_ble_eq_true rfl, Nat.le_of_ble_eq_true rfl⟩ (fun H locs hP hS _ _ => ?_)
      refine lv_istore_n (lv' := [(2, .int (nI p)), (0, .ref (a 0)), (1, .int (nI nd))]) hx hb dX3_acknowledge_45 rfl hl (by decide) rfl (fun ls hl => ?_)
      refine lv_aload_n hx hb dX3_acknowledge_46 rfl (lv_at hl 1 rfl) ?_
      refine lv_iload_n hx hb dX3_acknowledge_47 rfl (lv_at hl 0 rfl) ?_
      refine kV_i (r := nI (if p + 1 = s 1 0 0 then 0 else s 10 (2 * s 0 0 p + 1) 0)) (w2 := wC g a n s) (As := [.int (nI p)]) (b := a 0) (rest := []) (A1 := A) hfx (c_X3_acknowledgementsTowards l hA hn6 (s := s) (p := p) (hs) (by omega)) (cwV 1 hts gX3_acknowledge_X3_acknowledgementsTowards rfl rfl rfl (by decide +kernel) ⟨by decide, by decide⟩) (va_recv hC.1 hP (ci := 3) rfl (wC_obj)) hC hP hS (fun _ h => h) rfl hl.1 rfl (Nat.le_of_ble_eq_true rfl) dX3_acknowledge_48 ⟨Nat.le_of_ble_eq_true rfl, Nat.le_of_ble_eq_true rfl⟩ (fun H locs hP hS _ _ => ?_)
      rw [hz]
      refine k_if_ne (tgt := 64) hx hb dX3_acknowledge_51 (by decide) (by omega) (fun c51 => ?_) (fun c51 => ?_)
      · exfalso; omega
      · skip
        exact k_ns (is := 107) (text := "no acknowledgement is on the link from the successor") hx hb hlt hown (hts (.classLink RX3 83 nx_n) (by decide +kernel)) (hts (.initialized nx_n) (by decide +kernel)) (by decide +kernel) hg_ns hT hP hS (hl.1.trans hml.symm) dX3_acknowledge_54 dX3_acknowledge_57 dX3_acknowledge_58 dX3_acknowledge_60 dX3_acknowledge_63 hnt (by decide) (Nat.le_of_ble_eq_true rfl) (by decide) (by decide) hlk (by decide) (by decide)
    · exfalso; omega
  · exfalso; omega
set_option maxHeartbeats 4000000 in
set_option maxRecDepth 100000 in
/-- fail throws:  -/
theorem x_X3_fail_1 (l : Launch) (hlt : l.stackTraces = false) {g : GG} {sa : Nat → Nat} {a : Nat → Nat} {n : Nat} {A : Nat → Prop} (hA : Ap A a (5 + 7 * n)) (hn6 : n ≤ 6) {s : CS} {x : Int32} (hbad : x < 0 ∨ nI n ≤ x) : vx_Met l yX3_fail wsX3_fail ({ frames := 6, cells := 1, slots := 6, locals := 82 }) (pT g sa A [.ref (a 0), .int (x)] (wC g a n s)) (qF A) (xC g eIA (wC g a n s) A) 1 6 A := by
  refine k_startX (cc := cX3_fail) (maxL := 2) (ret := (some .boolean)) (by decide) rfl (Nat.le_of_ble_eq_true rfl) ?_
  intro pr en s0 m args below meth cd hx hb hml hr hlk hts hown hin hC hP hT hnt ls hl
  have hS : va_S A s0.heap s0.heap [] := va_S.rf
  have hfx : CallFix pr m cd cX3_fail 2 s0 args wsX3_fail RX3 := ⟨hx, hb, hml, hown, hts⟩
  have hg_ia : ∀ w ∈ (vx_atS RX3 41 eIA nm2).filter goodWord, w.before args s0 = true := fun w h => hts w (List.mem_cons_of_mem _ (List.mem_append_right _ h))
  have hu3 : ∀ w ∈ wsX30, w.before args s0 = true := fun w h => hts w ((by decide +kernel : ∀ w ∈ wsX30, w ∈ wsX3_fail) w h)
  have hu1 : ∀ w ∈ wsX10, w.before args s0 = true := fun w h => hts w ((by decide +kernel : ∀ w ∈ wsX10, w ∈ wsX3_fail) w h)
  have hl : lv_has ls 2 [(0, .ref (a 0)), (1, .int (x))] := hl
  refine lv_aload_n hx hb dX3_fail_0 rfl (lv_at hl 0 rfl) ?_
  refine lv_iload_n hx hb dX3_fail_1 rfl (lv_at hl 1 rfl) ?_
  refine kV_i (r := nI 0) (w2 := wC g a n s) (As := [.int (x)]) (b := a 0) (rest := []) (A1 := A) hfx (c_X3_isNode_no l hA hn6 (s := s) (x := x) hbad) (cwV 1 hts gX3_fail_X3_isNode rfl rfl rfl (by decide +kernel) ⟨by decide, by decide⟩) (va_recv hC.1 hP (ci := 3) rfl (wC_obj)) hC hP hS (fun _ h => h) rfl hl.1 rfl (Nat.le_of_ble_eq_true rfl) dX3_fail_2 ⟨Nat.le_of_ble_eq_true rfl, Nat.le_of_ble_eq_true rfl⟩ (fun H locs hP hS _ _ => ?_)
  refine k_if_ne (tgt := 18) hx hb dX3_fail_5 (by decide) (by omega) (fun c5 => ?_) (fun c5 => ?_)
  · exfalso; omega
  · skip
    exact k_ia (is := 72) (text := "no such node") hx hb hlt hown (hts (.classLink RX3 37 eIA) (by decide +kernel)) (hts (.initialized eIA) (by decide +kernel)) (by decide +kernel) hg_ia hT hP hS (hl.1.trans hml.symm) dX3_fail_8 dX3_fail_11 dX3_fail_12 dX3_fail_14 dX3_fail_17 hnt (by decide) (Nat.le_of_ble_eq_true rfl) (by decide) (by decide) hlk (by decide) (by decide)
set_option maxHeartbeats 4000000 in
set_option maxRecDepth 100000 in
/-- resync throws:  -/
theorem x_X3_resync_1 (l : Launch) (hlt : l.stackTraces = false) {g : GG} {sa : Nat → Nat} {a : Nat → Nat} {n : Nat} {A : Nat → Prop} (hA : Ap A a (5 + 7 * n)) (hn6 : n ≤ 6) {s : CS} {x : Int32} (hbad : x < 0 ∨ nI n ≤ x) : vx_Met l yX3_resync wsX3_resync ({ frames := 6, cells := 1, slots := 6, locals := 82 }) (pT g sa A [.ref (a 0), .int (x)] (wC g a n s)) (qF A) (xC g eIA (wC g a n s) A) 1 6 A := by
  refine k_startX (cc := cX3_resync) (maxL := 7) (ret := (some .int)) (by decide) rfl (Nat.le_of_ble_eq_true rfl) ?_
  intro pr en s0 m args below meth cd hx hb hml hr hlk hts hown hin hC hP hT hnt ls hl
  have hS : va_S A s0.heap s0.heap [] := va_S.rf
  have hfx : CallFix pr m cd cX3_resync 7 s0 args wsX3_resync RX3 := ⟨hx, hb, hml, hown, hts⟩
  have hg_ia : ∀ w ∈ (vx_atS RX3 41 eIA nm2).filter goodWord, w.before args s0 = true := fun w h => hts w (List.mem_cons_of_mem _ (List.mem_append_left _ (List.mem_append_right _ h)))
  have hu3 : ∀ w ∈ wsX30, w.before args s0 = true := fun w h => hts w ((by decide +kernel : ∀ w ∈ wsX30, w ∈ wsX3_resync) w h)
  have hu1 : ∀ w ∈ wsX10, w.before args s0 = true := fun w h => hts w ((by decide +kernel : ∀ w ∈ wsX10, w ∈ wsX3_resync) w h)
  have hl : lv_has ls 7 [(0, .ref (a 0)), (1, .int (x))] := hl
  refine lv_aload_n hx hb dX3_resync_0 rfl (lv_at hl 0 rfl) ?_
  refine lv_iload_n hx hb dX3_resync_1 rfl (lv_at hl 1 rfl) ?_
  refine kV_i (r := nI 0) (w2 := wC g a n s) (As := [.int (x)]) (b := a 0) (rest := []) (A1 := A) hfx (c_X3_isNode_no l hA hn6 (s := s) (x := x) hbad) (cwV 1 hts gX3_resync_X3_isNode rfl rfl rfl (by decide +kernel) ⟨by decide, by decide⟩) (va_recv hC.1 hP (ci := 3) rfl (wC_obj)) hC hP hS (fun _ h => h) rfl hl.1 rfl (Nat.le_of_ble_eq_true rfl) dX3_resync_2 ⟨Nat.le_of_ble_eq_true rfl, Nat.le_of_ble_eq_true rfl⟩ (fun H locs hP hS _ _ => ?_)
  refine k_if_ne (tgt := 18) hx hb dX3_resync_5 (by decide) (by omega) (fun c5 => ?_) (fun c5 => ?_)
  · exfalso; omega
  · skip
    exact k_ia (is := 72) (text := "no such node") hx hb hlt hown (hts (.classLink RX3 37 eIA) (by decide +kernel)) (hts (.initialized eIA) (by decide +kernel)) (by decide +kernel) hg_ia hT hP hS (hl.1.trans hml.symm) dX3_resync_8 dX3_resync_11 dX3_resync_12 dX3_resync_14 dX3_resync_17 hnt (by decide) (Nat.le_of_ble_eq_true rfl) (by decide) (by decide) hlk (by decide) (by decide)
set_option maxHeartbeats 4000000 in
set_option maxRecDepth 100000 in
/-- resync throws:  -/
theorem x_X3_resync_2 (l : Launch) (hlt : l.stackTraces = false) {g : GG} {sa : Nat → Nat} {a : Nat → Nat} {n : Nat} {A : Nat → Prop} (hA : Ap A a (5 + 7 * n)) (hn6 : n ≤ 6) {s : CS} {p nd : Nat} (hs : Sh n s) (hnd : nd < n) (hp : p < s 1 0 0) (hpe : s 0 0 p = nd) (hf : ∀ k, k < p → s 0 0 k ≠ nd) (hno : ¬ (p + 1 ≠ s 1 0 0 ∧ s 7 (s 0 0 p) 0 = 0 ∧ s 7 (s 0 0 (p + 1)) 0 = 0 ∧ s 8 (s 0 0 p) 0 = 0)) : vx_Met l yX3_resync wsX3_resync ({ frames := 6, cells := 1, slots := 6, locals := 82 }) (pT g sa A [.ref (a 0), .int (nI nd)] (wC g a n s)) (qF A) (xC g eIS (wC g a n s) A) 1 6 A := by
  refine k_startX (cc := cX3_resync) (maxL := 7) (ret := (some .int)) (by decide) rfl (Nat.le_of_ble_eq_true rfl) ?_
  intro pr en s0 m args below meth cd hx hb hml hr hlk hts hown hin hC hP hT hnt ls hl
  have hS : va_S A s0.heap s0.heap [] := va_S.rf
  have hfx : CallFix pr m cd cX3_resync 7 s0 args wsX3_resync RX3 := ⟨hx, hb, hml, hown, hts⟩
  have hg_is : ∀ w ∈ (vx_atS RX3 59 eIS nm2).filter goodWord, w.before args s0 = true := fun w h => hts w (List.mem_cons_of_mem _ (List.mem_append_right _ h))
  have hu3 : ∀ w ∈ wsX30, w.before args s0 = true := fun w h => hts w ((by decide +kernel : ∀ w ∈ wsX30, w ∈ wsX3_resync) w h)
  have hu1 : ∀ w ∈ wsX10, w.before args s0 = true := fun w h => hts w ((by decide +kernel : ∀ w ∈ wsX10, w ∈ wsX3_resync) w h)
  have hl : lv_has ls 7 [(0, .ref (a 0)), (1, .int (nI nd))] := hl
  refine lv_aload_n hx hb dX3_resync_0 rfl (lv_at hl 0 rfl) ?_
  refine lv_iload_n hx hb dX3_resync_1 rfl (lv_at hl 1 rfl) ?_
  refine kV_i (r := nI 1) (w2 := wC g a n s) (As := [.int (nI nd)]) (b := a 0) (rest := []) (A1 := A) hfx (c_X3_isNode l hA hn6 (s := s) (j := nd) (by omega)) (cwV 1 hts gX3_resync_X3_isNode rfl rfl rfl (by decide +kernel) ⟨by decide, by decide⟩) (va_recv hC.1 hP (ci := 3) rfl (wC_obj)) hC hP hS (fun _ h => h) rfl hl.1 rfl (Nat.le_of_ble_eq_true rfl) dX3_resync_2 ⟨Nat.le_of_ble_eq_true rfl, Nat.le_of_ble_eq_true rfl⟩ (fun H locs hP hS _ _ => ?_)
  refine k_if_ne (tgt := 18) hx hb dX3_resync_5 (by decide) (by omega) (fun c5 => ?_) (fun c5 => ?_)
  · skip
    refine lv_aload_n hx hb dX3_resync_18 rfl (lv_at hl 0 rfl) ?_
    refine lv_iload_n hx hb dX3_resync_19 rfl (lv_at hl 1 rfl) ?_
    refine kV_i (r := nI p) (w2 := wC g a n s) (As := [.int (nI nd)]) (b := a 0) (rest := []) (A1 := A) hfx (c_X3_positionOf l hA hn6 (s := s) (p := p) (nd := nd) (hs) (by omega) (hp) (hpe) (hf)) (cwV 1 hts gX3_resync_X3_positionOf rfl rfl rfl (by decide +kernel) ⟨by decide, by decide⟩) (va_recv hC.1 hP (ci := 3) rfl (wC_obj)) hC hP hS (fun _ h => h) rfl hl.1 rfl (Nat.le_of_ble_eq_true rfl) dX3_resync_20 ⟨Nat.le_of_ble_eq_true rfl, Nat.le_of_ble_eq_true rfl⟩ (fun H locs hP hS _ _ => ?_)
    refine lv_istore_n (lv' := [(2, .int (nI p)), (0, .ref (a 0)), (1, .int (nI nd))]) hx hb dX3_resync_23 rfl hl (by decide) rfl (fun ls hl => ?_)
    refine lv_aload_n hx hb dX3_resync_24 rfl (lv_at hl 1 rfl) ?_
    refine lv_iload_n hx hb dX3_resync_25 rfl (lv_at hl 0 rfl) ?_
    refine kV_i (r := nI (if p + 1 ≠ s 1 0 0 ∧ s 7 (s 0 0 p) 0 = 0 ∧ s 7 (s 0 0 (p + 1)) 0 = 0 ∧ s 8 (s 0 0 p) 0 = 0 then 1 else 0)) (w2 := wC g a n s) (As := [.int (nI p)]) (b := a 0) (rest := []) (A1 := A) hfx (c_X3_canResyncAt l hA hn6 (s := s) (p := p) (hs) (by omega)) (cwV 1 hts gX3_resync_X3_canResyncAt rfl rfl rfl (by decide +kernel) ⟨by decide, by decide⟩) (va_recv hC.1 hP (ci := 3) rfl (wC_obj)) hC hP hS (fun _ h => h) rfl hl.1 rfl (Nat.le_of_ble_eq_true rfl) dX3_resync_26 ⟨Nat.le_of_ble_eq_true rfl, Nat.le_of_ble_eq_true rfl⟩ (fun H locs hP hS _ _ => ?_)
    rw [if_neg hno]
    refine k_if_ne (tgt := 42) hx hb dX3_resync_29 (by decide) (by omega) (fun c29 => ?_) (fun c29 => ?_)
    · exfalso; omega
    · skip
      exact k_is (is := 134) (text := "there is no closed link between two nodes that stand") hx hb hlt hown (hts (.classLink RX3 55 eIS) (by decide +kernel)) (hts (.initialized eIS) (by decide +kernel)) (by decide +kernel) hg_is hT hP hS (hl.1.trans hml.symm) dX3_resync_32 dX3_resync_35 dX3_resync_36 dX3_resync_38 dX3_resync_41 hnt (by decide) (Nat.le_of_ble_eq_true rfl) (by decide) (by decide) hlk (by decide) (by decide)
  · exfalso; omega
set_option maxHeartbeats 4000000 in
set_option maxRecDepth 100000 in
/-- resync throws:  -/
theorem x_X3_resync_2o (l : Launch) (hlt : l.stackTraces = false) {g : GG} {sa : Nat → Nat} {a : Nat → Nat} {n : Nat} {A : Nat → Prop} (hA : Ap A a (5 + 7 * n)) (hn6 : n ≤ 6) {s : CS} {nd : Nat} (hs : Sh n s) (hnd : nd < n) (hno : ∀ k, k < s 1 0 0 → s 0 0 k ≠ nd) : vx_Met l yX3_resync wsX3_resync ({ frames := 6, cells := 1, slots := 6, locals := 82 }) (pT g sa A [.ref (a 0), .int (nI nd)] (wC g a n s)) (qF A) (xC g eIS (wC g a n s) A) 1 6 A := by
  refine k_startX (cc := cX3_resync) (maxL := 7) (ret := (some .int)) (by decide) rfl (Nat.le_of_ble_eq_true rfl) ?_
  intro pr en s0 m args below meth cd hx hb hml hr hlk hts hown hin hC hP hT hnt ls hl
  have hS : va_S A s0.heap s0.heap [] := va_S.rf
  have hfx : CallFix pr m cd cX3_resync 7 s0 args wsX3_resync RX3 := ⟨hx, hb, hml, hown, hts⟩
  have hg_is : ∀ w ∈ (vx_atS RX3 59 eIS nm2).filter goodWord, w.before args s0 = true := fun w h => hts w (List.mem_cons_of_mem _ (List.mem_append_right _ h))
  have hu3 : ∀ w ∈ wsX30, w.before args s0 = true := fun w h => hts w ((by decide +kernel : ∀ w ∈ wsX30, w ∈ wsX3_resync) w h)
  have hu1 : ∀ w ∈ wsX10, w.before args s0 = true := fun w h => hts w ((by decide +kernel : ∀ w ∈ wsX10, w ∈ wsX3_resync) w h)
  have hl : lv_has ls 7 [(0, .ref (a 0)), (1, .int (nI nd))] := hl
  refine lv_aload_n hx hb dX3_resync_0 rfl (lv_at hl 0 rfl) ?_
  refine lv_iload_n hx hb dX3_resync_1 rfl (lv_at hl 1 rfl) ?_
  refine kV_i (r := nI 1) (w2 := wC g a n s) (As := [.int (nI nd)]) (b := a 0) (rest := []) (A1 := A) hfx (c_X3_isNode l hA hn6 (s := s) (j := nd) (by omega)) (cwV 1 hts gX3_resync_X3_isNode rfl rfl rfl (by decide +kernel) ⟨by decide, by decide⟩) (va_recv hC.1 hP (ci := 3) rfl (wC_obj)) hC hP hS (fun _ h => h) rfl hl.1 rfl (Nat.le_of_ble_eq_true rfl) dX3_resync_2 ⟨Nat.le_of_ble_eq_true rfl, Nat.le_of_ble_eq_true rfl⟩ (fun H locs hP hS _ _ => ?_)
  refine k_if_ne (tgt := 18) hx hb dX3_resync_5 (by decide) (by omega) (fun c5 => ?_) (fun c5 => ?_)
  · skip
    refine lv_aload_n hx hb dX3_resync_18 rfl (lv_at hl 0 rfl) ?_
    refine lv_iload_n hx hb dX3_resync_19 rfl (lv_at hl 1 rfl) ?_
    refine kV_i (r := -1) (w2 := wC g a n s) (As := [.int (nI nd)]) (b := a 0) (rest := []) (A1 := A) hfx (c_X3_positionOf_no l hA hn6 (s := s) (nd := nd) (hs) (by omega) (hno)) (cwV 1 hts gX3_resync_X3_positionOf rfl rfl rfl (by decide +kernel) ⟨by decide, by decide⟩) (va_recv hC.1 hP (ci := 3) rfl (wC_obj)) hC hP hS (fun _ h => h) rfl hl.1 rfl (Nat.le_of_ble_eq_true rfl) dX3_resync_20 ⟨Nat.le_of_ble_eq_true rfl, Nat.le_of_ble_eq_true rfl⟩ (fun H locs hP hS _ _ => ?_)
    refine lv_istore_n (lv' := [(2, .int (-1)), (0, .ref (a 0)), (1, .int (nI nd))]) hx hb dX3_resync_23 rfl hl (by decide) rfl (fun ls hl => ?_)
    refine lv_aload_n hx hb dX3_resync_24 rfl (lv_at hl 1 rfl) ?_
    refine lv_iload_n hx hb dX3_resync_25 rfl (lv_at hl 0 rfl) ?_
    refine kV_i (r := nI 0) (w2 := wC g a n s) (As := [.int (-1)]) (b := a 0) (rest := []) (A1 := A) hfx (c_X3_canResyncAt_no l hA hn6 (s := s)) (cwV 1 hts gX3_resync_X3_canResyncAt rfl rfl rfl (by decide +kernel) ⟨by decide, by decide⟩) (va_recv hC.1 hP (ci := 3) rfl (wC_obj)) hC hP hS (fun _ h => h) rfl hl.1 rfl (Nat.le_of_ble_eq_true rfl) dX3_resync_26 ⟨Nat.le_of_ble_eq_true rfl, Nat.le_of_ble_eq_true rfl⟩ (fun H locs hP hS _ _ => ?_)
    refine k_if_ne (tgt := 42) hx hb dX3_resync_29 (by decide) (by omega) (fun c29 => ?_) (fun c29 => ?_)
    · exfalso; omega
    · skip
      exact k_is (is := 134) (text := "there is no closed link between two nodes that stand") hx hb hlt hown (hts (.classLink RX3 55 eIS) (by decide +kernel)) (hts (.initialized eIS) (by decide +kernel)) (by decide +kernel) hg_is hT hP hS (hl.1.trans hml.symm) dX3_resync_32 dX3_resync_35 dX3_resync_36 dX3_resync_38 dX3_resync_41 hnt (by decide) (Nat.le_of_ble_eq_true rfl) (by decide) (by decide) hlk (by decide) (by decide)
  · exfalso; omega
set_option maxHeartbeats 4000000 in
set_option maxRecDepth 100000 in
/-- valueAt throws:  -/
theorem x_X3_valueAt_1 (l : Launch) (hlt : l.stackTraces = false) {g : GG} {sa : Nat → Nat} {a : Nat → Nat} {n : Nat} {A : Nat → Prop} (hA : Ap A a (5 + 7 * n)) (hn6 : n ≤ 6) {s : CS} {x y : Int32} (hbad : x < 0 ∨ nI n ≤ x) : vx_Met l yX3_valueAt wsX3_valueAt ({ frames := 6, cells := 1, slots := 6, locals := 82 }) (pT g sa A [.ref (a 0), .int (x), .int (y)] (wC g a n s)) (qF A) (xC g eIA (wC g a n s) A) 1 6 A := by
  refine k_startX (cc := cX3_valueAt) (maxL := 3) (ret := (some .int)) (by decide) rfl (Nat.le_of_ble_eq_true rfl) ?_
  intro pr en s0 m args below meth cd hx hb hml hr hlk hts hown hin hC hP hT hnt ls hl
  have hS : va_S A s0.heap s0.heap [] := va_S.rf
  have hfx : CallFix pr m cd cX3_valueAt 3 s0 args wsX3_valueAt RX3 := ⟨hx, hb, hml, hown, hts⟩
  have hg_ia : ∀ w ∈ (vx_atS RX3 41 eIA nm2).filter goodWord, w.before args s0 = true := fun w h => hts w (List.mem_cons_of_mem _ (List.mem_append_right _ h))
  have hu3 : ∀ w ∈ wsX30, w.before args s0 = true := fun w h => hts w ((by decide +kernel : ∀ w ∈ wsX30, w ∈ wsX3_valueAt) w h)
  have hu1 : ∀ w ∈ wsX10, w.before args s0 = true := fun w h => hts w ((by decide +kernel : ∀ w ∈ wsX10, w ∈ wsX3_valueAt) w h)
  have hl : lv_has ls 3 [(0, .ref (a 0)), (1, .int (x)), (2, .int (y))] := hl
  refine lv_aload_n hx hb dX3_valueAt_0 rfl (lv_at hl 0 rfl) ?_
  refine lv_iload_n hx hb dX3_valueAt_1 rfl (lv_at hl 1 rfl) ?_
  refine kV_i (r := nI 0) (w2 := wC g a n s) (As := [.int (x)]) (b := a 0) (rest := []) (A1 := A) hfx (c_X3_isNode_no l hA hn6 (s := s) (x := x) hbad) (cwV 1 hts gX3_valueAt_X3_isNode rfl rfl rfl (by decide +kernel) ⟨by decide, by decide⟩) (va_recv hC.1 hP (ci := 3) rfl (wC_obj)) hC hP hS (fun _ h => h) rfl hl.1 rfl (Nat.le_of_ble_eq_true rfl) dX3_valueAt_2 ⟨Nat.le_of_ble_eq_true rfl, Nat.le_of_ble_eq_true rfl⟩ (fun H locs hP hS _ _ => ?_)
  refine k_if_eq (tgt := 15) hx hb dX3_valueAt_5 (by decide) (by omega) (fun c5 => ?_) (fun c5 => ?_)
  · skip
    exact k_ia (is := 157) (text := "no such node or key") hx hb hlt hown (hts (.classLink RX3 37 eIA) (by decide +kernel)) (hts (.initialized eIA) (by decide +kernel)) (by decide +kernel) hg_ia hT hP hS (hl.1.trans hml.symm) dX3_valueAt_15 dX3_valueAt_18 dX3_valueAt_19 dX3_valueAt_21 dX3_valueAt_24 hnt (by decide) (Nat.le_of_ble_eq_true rfl) (by decide) (by decide) hlk (by decide) (by decide)
  · exfalso; omega
set_option maxHeartbeats 4000000 in
set_option maxRecDepth 100000 in
/-- valueAt throws:  -/
theorem x_X3_valueAt_1k (l : Launch) (hlt : l.stackTraces = false) {g : GG} {sa : Nat → Nat} {a : Nat → Nat} {n : Nat} {A : Nat → Prop} (hA : Ap A a (5 + 7 * n)) (hn6 : n ≤ 6) {s : CS} {nd : Nat} {x : Int32} (hnd : nd < n) (hbadk : x < 0 ∨ nI 8 ≤ x) : vx_Met l yX3_valueAt wsX3_valueAt ({ frames := 6, cells := 1, slots := 6, locals := 82 }) (pT g sa A [.ref (a 0), .int (nI nd), .int (x)] (wC g a n s)) (qF A) (xC g eIA (wC g a n s) A) 1 6 A := by
  refine k_startX (cc := cX3_valueAt) (maxL := 3) (ret := (some .int)) (by decide) rfl (Nat.le_of_ble_eq_true rfl) ?_
  intro pr en s0 m args below meth cd hx hb hml hr hlk hts hown hin hC hP hT hnt ls hl
  have hS : va_S A s0.heap s0.heap [] := va_S.rf
  have hfx : CallFix pr m cd cX3_valueAt 3 s0 args wsX3_valueAt RX3 := ⟨hx, hb, hml, hown, hts⟩
  have hg_ia : ∀ w ∈ (vx_atS RX3 41 eIA nm2).filter goodWord, w.before args s0 = true := fun w h => hts w (List.mem_cons_of_mem _ (List.mem_append_right _ h))
  have hu3 : ∀ w ∈ wsX30, w.before args s0 = true := fun w h => hts w ((by decide +kernel : ∀ w ∈ wsX30, w ∈ wsX3_valueAt) w h)
  have hu1 : ∀ w ∈ wsX10, w.before args s0 = true := fun w h => hts w ((by decide +kernel : ∀ w ∈ wsX10, w ∈ wsX3_valueAt) w h)
  have hl : lv_has ls 3 [(0, .ref (a 0)), (1, .int (nI nd)), (2, .int (x))] := hl
  refine lv_aload_n hx hb dX3_valueAt_0 rfl (lv_at hl 0 rfl) ?_
  refine lv_iload_n hx hb dX3_valueAt_1 rfl (lv_at hl 1 rfl) ?_
  refine kV_i (r := nI 1) (w2 := wC g a n s) (As := [.int (nI nd)]) (b := a 0) (rest := []) (A1 := A) hfx (c_X3_isNode l hA hn6 (s := s) (j := nd) (by omega)) (cwV 1 hts gX3_valueAt_X3_isNode rfl rfl rfl (by decide +kernel) ⟨by decide, by decide⟩) (va_recv hC.1 hP (ci := 3) rfl (wC_obj)) hC hP hS (fun _ h => h) rfl hl.1 rfl (Nat.le_of_ble_eq_true rfl) dX3_valueAt_2 ⟨Nat.le_of_ble_eq_true rfl, Nat.le_of_ble_eq_true rfl⟩ (fun H locs hP hS _ _ => ?_)
  refine k_if_eq (tgt := 15) hx hb dX3_valueAt_5 (by decide) (by omega) (fun c5 => ?_) (fun c5 => ?_)
  · exfalso; omega
  · skip
    refine lv_iload_n hx hb dX3_valueAt_8 rfl (lv_at hl 2 rfl) ?_
    refine kS_i (r := nI 0) (w2 := wC g a n s) (As := [.int (x)]) (rest := []) (A1 := A) hfx (c_X3_isKey_no l hA hn6 (s := s) (x := x) hbadk) (va_cwS 1 hts gX3_valueAt_X3_isKey rfl rfl rfl (by decide +kernel) ⟨by decide, by decide⟩) hC hP hS (fun _ h => h) rfl hl.1 rfl (Nat.le_of_ble_eq_true rfl) dX3_valueAt_9 ⟨Nat.le_of_ble_eq_true rfl, Nat.le_of_ble_eq_true rfl⟩ (fun H locs hP hS _ _ => ?_)
    refine k_if_ne (tgt := 25) hx hb dX3_valueAt_12 (by decide) (by omega) (fun c12 => ?_) (fun c12 => ?_)
    · exfalso; omega
    · skip
      exact k_ia (is := 157) (text := "no such node or key") hx hb hlt hown (hts (.classLink RX3 37 eIA) (by decide +kernel)) (hts (.initialized eIA) (by decide +kernel)) (by decide +kernel) hg_ia hT hP hS (hl.1.trans hml.symm) dX3_valueAt_15 dX3_valueAt_18 dX3_valueAt_19 dX3_valueAt_21 dX3_valueAt_24 hnt (by decide) (Nat.le_of_ble_eq_true rfl) (by decide) (by decide) hlk (by decide) (by decide)
set_option maxHeartbeats 4000000 in
set_option maxRecDepth 100000 in
/-- history throws:  -/
theorem x_X3_history_1 (l : Launch) (hlt : l.stackTraces = false) {g : GG} {sa : Nat → Nat} {a : Nat → Nat} {n : Nat} {A : Nat → Prop} (hA : Ap A a (5 + 7 * n)) (hn6 : n ≤ 6) {s : CS} {x : Int32} (hbad : x < 0 ∨ nI n ≤ x) : vx_Met l yX3_history wsX3_history ({ frames := 6, cells := 1, slots := 6, locals := 82 }) (pT g sa A [.ref (a 0), .int (x)] (wC g a n s)) (qF A) (xC g eIA (wC g a n s) A) 1 6 A := by
  refine k_startX (cc := cX3_history) (maxL := 2) (ret := (some .int)) (by decide) rfl (Nat.le_of_ble_eq_true rfl) ?_
  intro pr en s0 m args below meth cd hx hb hml hr hlk hts hown hin hC hP hT hnt ls hl
  have hS : va_S A s0.heap s0.heap [] := va_S.rf
  have hfx : CallFix pr m cd cX3_history 2 s0 args wsX3_history RX3 := ⟨hx, hb, hml, hown, hts⟩
  have hg_ia : ∀ w ∈ (vx_atS RX3 41 eIA nm2).filter goodWord, w.before args s0 = true := fun w h => hts w (List.mem_cons_of_mem _ (List.mem_append_right _ h))
  have hu3 : ∀ w ∈ wsX30, w.before args s0 = true := fun w h => hts w ((by decide +kernel : ∀ w ∈ wsX30, w ∈ wsX3_history) w h)
  have hu1 : ∀ w ∈ wsX10, w.before args s0 = true := fun w h => hts w ((by decide +kernel : ∀ w ∈ wsX10, w ∈ wsX3_history) w h)
  have hl : lv_has ls 2 [(0, .ref (a 0)), (1, .int (x))] := hl
  refine lv_aload_n hx hb dX3_history_0 rfl (lv_at hl 0 rfl) ?_
  refine lv_iload_n hx hb dX3_history_1 rfl (lv_at hl 1 rfl) ?_
  refine kV_i (r := nI 0) (w2 := wC g a n s) (As := [.int (x)]) (b := a 0) (rest := []) (A1 := A) hfx (c_X3_isNode_no l hA hn6 (s := s) (x := x) hbad) (cwV 1 hts gX3_history_X3_isNode rfl rfl rfl (by decide +kernel) ⟨by decide, by decide⟩) (va_recv hC.1 hP (ci := 3) rfl (wC_obj)) hC hP hS (fun _ h => h) rfl hl.1 rfl (Nat.le_of_ble_eq_true rfl) dX3_history_2 ⟨Nat.le_of_ble_eq_true rfl, Nat.le_of_ble_eq_true rfl⟩ (fun H locs hP hS _ _ => ?_)
  refine k_if_ne (tgt := 18) hx hb dX3_history_5 (by decide) (by omega) (fun c5 => ?_) (fun c5 => ?_)
  · exfalso; omega
  · skip
    exact k_ia (is := 72) (text := "no such node") hx hb hlt hown (hts (.classLink RX3 37 eIA) (by decide +kernel)) (hts (.initialized eIA) (by decide +kernel)) (by decide +kernel) hg_ia hT hP hS (hl.1.trans hml.symm) dX3_history_8 dX3_history_11 dX3_history_12 dX3_history_14 dX3_history_17 hnt (by decide) (Nat.le_of_ble_eq_true rfl) (by decide) (by decide) hlk (by decide) (by decide)
set_option maxHeartbeats 4000000 in
set_option maxRecDepth 100000 in
/-- sent throws:  -/
theorem x_X3_sent_1 (l : Launch) (hlt : l.stackTraces = false) {g : GG} {sa : Nat → Nat} {a : Nat → Nat} {n : Nat} {A : Nat → Prop} (hA : Ap A a (5 + 7 * n)) (hn6 : n ≤ 6) {s : CS} {x : Int32} (hbad : x < 0 ∨ nI n ≤ x) : vx_Met l yX3_sent wsX3_sent ({ frames := 6, cells := 1, slots := 6, locals := 82 }) (pT g sa A [.ref (a 0), .int (x)] (wC g a n s)) (qF A) (xC g eIA (wC g a n s) A) 1 6 A := by
  refine k_startX (cc := cX3_sent) (maxL := 2) (ret := (some .int)) (by decide) rfl (Nat.le_of_ble_eq_true rfl) ?_
  intro pr en s0 m args below meth cd hx hb hml hr hlk hts hown hin hC hP hT hnt ls hl
  have hS : va_S A s0.heap s0.heap [] := va_S.rf
  have hfx : CallFix pr m cd cX3_sent 2 s0 args wsX3_sent RX3 := ⟨hx, hb, hml, hown, hts⟩
  have hg_ia : ∀ w ∈ (vx_atS RX3 41 eIA nm2).filter goodWord, w.before args s0 = true := fun w h => hts w (List.mem_cons_of_mem _ (List.mem_append_right _ h))
  have hu3 : ∀ w ∈ wsX30, w.before args s0 = true := fun w h => hts w ((by decide +kernel : ∀ w ∈ wsX30, w ∈ wsX3_sent) w h)
  have hu1 : ∀ w ∈ wsX10, w.before args s0 = true := fun w h => hts w ((by decide +kernel : ∀ w ∈ wsX10, w ∈ wsX3_sent) w h)
  have hl : lv_has ls 2 [(0, .ref (a 0)), (1, .int (x))] := hl
  refine lv_aload_n hx hb dX3_sent_0 rfl (lv_at hl 0 rfl) ?_
  refine lv_iload_n hx hb dX3_sent_1 rfl (lv_at hl 1 rfl) ?_
  refine kV_i (r := nI 0) (w2 := wC g a n s) (As := [.int (x)]) (b := a 0) (rest := []) (A1 := A) hfx (c_X3_isNode_no l hA hn6 (s := s) (x := x) hbad) (cwV 1 hts gX3_sent_X3_isNode rfl rfl rfl (by decide +kernel) ⟨by decide, by decide⟩) (va_recv hC.1 hP (ci := 3) rfl (wC_obj)) hC hP hS (fun _ h => h) rfl hl.1 rfl (Nat.le_of_ble_eq_true rfl) dX3_sent_2 ⟨Nat.le_of_ble_eq_true rfl, Nat.le_of_ble_eq_true rfl⟩ (fun H locs hP hS _ _ => ?_)
  refine k_if_ne (tgt := 18) hx hb dX3_sent_5 (by decide) (by omega) (fun c5 => ?_) (fun c5 => ?_)
  · exfalso; omega
  · skip
    exact k_ia (is := 72) (text := "no such node") hx hb hlt hown (hts (.classLink RX3 37 eIA) (by decide +kernel)) (hts (.initialized eIA) (by decide +kernel)) (by decide +kernel) hg_ia hT hP hS (hl.1.trans hml.symm) dX3_sent_8 dX3_sent_11 dX3_sent_12 dX3_sent_14 dX3_sent_17 hnt (by decide) (Nat.le_of_ble_eq_true rfl) (by decide) (by decide) hlk (by decide) (by decide)
set_option maxHeartbeats 4000000 in
set_option maxRecDepth 100000 in
/-- waiting throws:  -/
theorem x_X3_waiting_1 (l : Launch) (hlt : l.stackTraces = false) {g : GG} {sa : Nat → Nat} {a : Nat → Nat} {n : Nat} {A : Nat → Prop} (hA : Ap A a (5 + 7 * n)) (hn6 : n ≤ 6) {s : CS} {x : Int32} (hbad : x < 0 ∨ nI n ≤ x) : vx_Met l yX3_waiting wsX3_waiting ({ frames := 6, cells := 1, slots := 6, locals := 82 }) (pT g sa A [.ref (a 0), .int (x)] (wC g a n s)) (qF A) (xC g eIA (wC g a n s) A) 1 6 A := by
  refine k_startX (cc := cX3_waiting) (maxL := 3) (ret := (some .int)) (by decide) rfl (Nat.le_of_ble_eq_true rfl) ?_
  intro pr en s0 m args below meth cd hx hb hml hr hlk hts hown hin hC hP hT hnt ls hl
  have hS : va_S A s0.heap s0.heap [] := va_S.rf
  have hfx : CallFix pr m cd cX3_waiting 3 s0 args wsX3_waiting RX3 := ⟨hx, hb, hml, hown, hts⟩
  have hg_ia : ∀ w ∈ (vx_atS RX3 41 eIA nm2).filter goodWord, w.before args s0 = true := fun w h => hts w (List.mem_cons_of_mem _ (List.mem_append_right _ h))
  have hl : lv_has ls 3 [(0, .ref (a 0)), (1, .int (x))] := hl
  refine lv_aload_n hx hb dX3_waiting_0 rfl (lv_at hl 0 rfl) ?_
  refine lv_iload_n hx hb dX3_waiting_1 rfl (lv_at hl 1 rfl) ?_
  refine kV_i (r := nI 0) (w2 := wC g a n s) (As := [.int (x)]) (b := a 0) (rest := []) (A1 := A) hfx (c_X3_isNode_no l hA hn6 (s := s) (x := x) hbad) (cwV 1 hts gX3_waiting_X3_isNode rfl rfl rfl (by decide +kernel) ⟨by decide, by decide⟩) (va_recv hC.1 hP (ci := 3) rfl (wC_obj)) hC hP hS (fun _ h => h) rfl hl.1 rfl (Nat.le_of_ble_eq_true rfl) dX3_waiting_2 ⟨Nat.le_of_ble_eq_true rfl, Nat.le_of_ble_eq_true rfl⟩ (fun H locs hP hS _ _ => ?_)
  refine k_if_ne (tgt := 18) hx hb dX3_waiting_5 (by decide) (by omega) (fun c5 => ?_) (fun c5 => ?_)
  · exfalso; omega
  · skip
    exact k_ia (is := 72) (text := "no such node") hx hb hlt hown (hts (.classLink RX3 37 eIA) (by decide +kernel)) (hts (.initialized eIA) (by decide +kernel)) (by decide +kernel) hg_ia hT hP hS (hl.1.trans hml.symm) dX3_waiting_8 dX3_waiting_11 dX3_waiting_12 dX3_waiting_14 dX3_waiting_17 hnt (by decide) (Nat.le_of_ble_eq_true rfl) (by decide) (by decide) hlk (by decide) (by decide)
