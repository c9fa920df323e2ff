set_option maxHeartbeats 4000000 in
set_option maxRecDepth 100000 in
/-- write -/
theorem c_X4_write (l : Launch) {g : GG} {a : Nat → Nat} {n : Nat} {A : Nat → Prop} (hA : Ap A a 8) {s : CS} (hm : Mh n s) {j v : Nat} (hj : j < 8) (hfl : s 2 0 (s 0 0 0) = 0) (hh : s 4 0 (s 0 0 0) < 40) : Met l yX4_write wsX4_write ({ frames := 2, cells := 0, slots := 0, locals := 43 }) (pC g [.ref (a 0), .int (nI j), .int (nI v)] (wM g a s)) (qI g (nI (s 4 0 (s 0 0 0) + 1)) (wM g a (apM (w3 s 9 0 0 0) (s 0 0 0) j v)) A) 0 0 A := by
  refine k_start (cc := cX4_write) (maxL := 4) (ret := (some .int)) (by decide) rfl (Nat.le_of_ble_eq_true rfl) ?_
  intro pr en s0 m args below meth cd hx hb hml hr hlk hts hown hin hC hP ls hl
  have hS : va_S A s0.heap s0.heap [] := va_S.rf
  have hfx : CallFix pr m cd cX4_write 4 s0 args wsX4_write RX4 := ⟨hx, hb, hml, hown, hts⟩
  have hu4 : ∀ w ∈ wsX40, w.before args s0 = true := fun w h => hts w ((by decide +kernel : ∀ w ∈ wsX40, w ∈ wsX4_write) w h)
  have hl : lv_has ls 4 [(0, .ref (a 0)), (1, .int (nI j)), (2, .int (nI v))] := hl
  have m0 := hm.1
  have m1 := hm.2.1
  have f1 := hm.ch 0 (by omega)
  refine lv_aload_n hx hb dX4_write_0 rfl (lv_at hl 0 rfl) ?_
  refine kV_i (r := nI (s 0 0 0)) (w2 := wM g a s) (As := []) (b := a 0) (rest := []) (A1 := A) hfx (c_X4_first l (n := n) hA (s := s) (x := s 0 0 0) (rfl)) (cwV 0 hts gX4_write_X4_first rfl rfl rfl (by decide +kernel) ⟨by decide, by decide⟩) (va_recv hC.1 hP (ci := 4) rfl (wM_obj)) hC hP hS (fun _ h => h) rfl hl.1 rfl (Nat.le_of_ble_eq_true rfl) dX4_write_1 ⟨Nat.le_of_ble_eq_true rfl, Nat.le_of_ble_eq_true rfl⟩ (fun H locs hP hS _ _ => ?_)
  refine lv_istore_n (lv' := [(3, .int (nI (s 0 0 0))), (0, .ref (a 0)), (1, .int (nI j)), (2, .int (nI v))]) hx hb dX4_write_4 rfl hl (by decide) rfl (fun ls hl => ?_)
  refine lv_aload_n hx hb dX4_write_5 rfl (lv_at hl 1 rfl) ?_
  refine lv_iload_n hx hb dX4_write_6 rfl (lv_at hl 2 rfl) ?_
  refine lv_if_lt (tgt := 16) hx hb dX4_write_7 (by decide) (fun c7 => ?_) (fun c7 => ?_)
  · exact absurd c7 (nI_pos (by omega))
  · skip
    refine lv_iload_n hx hb dX4_write_10 rfl (lv_at hl 2 rfl) ?_
    refine k_bi (x := 7) hx hb dX4_write_11 (by decide) ?_
    refine k_icmp_le (tgt := 20) hx hb dX4_write_13 (by decide) (by omega) (by omega) (fun c13 => ?_) (fun c13 => ?_)
    · skip
      refine lv_aload_n hx hb dX4_write_20 rfl (lv_at hl 1 rfl) ?_
      refine va_get (D := g.1) (C := RX4) (T := TX4) (N := 11) (ci := 4) hx hb hu4 (fun _ h => h) hown hC.1 hP _ (wM_obj) rfl 4 (by decide) (hts (.fieldLink RX4 13 "SplicedChainModel" "failed" "[Z") (by decide +kernel)) (fun _ h9 => h9) rfl dX4_write_21 ?_
      refine lv_iload_n hx hb dX4_write_24 rfl (lv_at hl 0 rfl) ?_
      refine k_zald hx hb hC hP _ (wM_failed) (j := s 0 0 0) (by omega) (by omega) dX4_write_25 ?_
      refine k_if_ne (tgt := 40) hx hb dX4_write_26 (by decide) (by omega) (fun c26 => ?_) (fun c26 => ?_)
      · exfalso; omega
      · skip
        refine lv_aload_n hx hb dX4_write_29 rfl (lv_at hl 1 rfl) ?_
        refine va_get (D := g.1) (C := RX4) (T := TX4) (N := 11) (ci := 4) hx hb hu4 (fun _ h => h) hown hC.1 hP _ (wM_obj) rfl 6 (by decide) (hts (.fieldLink RX4 20 "SplicedChainModel" "history" "[I") (by decide +kernel)) (fun _ h9 => h9) rfl dX4_write_30 ?_
        refine lv_iload_n hx hb dX4_write_33 rfl (lv_at hl 0 rfl) ?_
        refine k_iald hx hb hC hP _ (wM_history) (j := s 0 0 0) (by omega) (by omega) dX4_write_34 ?_
        refine k_bi (x := 40) hx hb dX4_write_35 (by decide) ?_
        refine k_icmp_ne (tgt := 44) hx hb dX4_write_37 (by decide) (by omega) (by omega) (fun c37 => ?_) (fun c37 => ?_)
        · skip
          refine k_ic (x := 0) hx hb dX4_write_44 (by decide) ?_
          refine kV_i (r := nI 0) (w2 := wM g a (w3 s 9 0 0 0)) (As := [.int (nI 0)]) (b := a 0) (rest := []) (A1 := A) hfx (c_X4_throwsIt_0 l (n := n) hA (s := s)) (cwV 1 hts gX4_write_X4_throwsIt rfl rfl rfl (by decide +kernel) ⟨by decide, by decide⟩) (va_recv hC.1 hP (ci := 4) rfl (wM_obj)) hC hP hS (fun _ h => h) rfl hl.1 rfl (Nat.le_of_ble_eq_true rfl) dX4_write_45 ⟨Nat.le_of_ble_eq_true rfl, Nat.le_of_ble_eq_true rfl⟩ (fun H locs hP hS _ _ => ?_)
          refine k_if_eq (tgt := 53) hx hb dX4_write_48 (by decide) (by omega) (fun c48 => ?_) (fun c48 => ?_)
          · skip
            refine lv_aload_n hx hb dX4_write_53 rfl (lv_at hl 1 rfl) ?_
            refine lv_iload_n hx hb dX4_write_54 rfl (lv_at hl 0 rfl) ?_
            refine lv_iload_n hx hb dX4_write_55 rfl (lv_at hl 2 rfl) ?_
            refine lv_iload_n hx hb dX4_write_56 rfl (lv_at hl 3 rfl) ?_
            refine kV_v (w2 := wM g a (apM (w3 s 9 0 0 0) (s 0 0 0) j v)) (As := [.int (nI (s 0 0 0)), .int (nI j), .int (nI v)]) (b := a 0) (rest := []) (A1 := A) hfx (c_X4_apply l hA (s := (w3 s 9 0 0 0)) (hm.m9) (nd := s 0 0 0) (k := j) (v := v) (by omega) (by simp [w3]; omega)) (cwV 3 hts gX4_write_X4_apply rfl rfl rfl (by decide +kernel) ⟨by decide, by decide⟩) (va_recv hC.1 hP (ci := 4) rfl (wM_obj)) hC hP hS (fun _ h => h) rfl hl.1 rfl (Nat.le_of_ble_eq_true rfl) dX4_write_57 ⟨Nat.le_of_ble_eq_true rfl, Nat.le_of_ble_eq_true rfl⟩ (fun H locs hP hS _ _ => ?_)
            refine lv_aload_n hx hb dX4_write_60 rfl (lv_at hl 1 rfl) ?_
            refine va_get (D := g.1) (C := RX4) (T := TX4) (N := 11) (ci := 4) hx hb hu4 (fun _ h => h) hown hC.1 hP _ (wM_obj) rfl 6 (by decide) (hts (.fieldLink RX4 20 "SplicedChainModel" "history" "[I") (by decide +kernel)) (fun _ h9 => h9) rfl dX4_write_61 ?_
            refine lv_iload_n hx hb dX4_write_64 rfl (lv_at hl 0 rfl) ?_
            refine k_iald hx hb hC hP _ (wM_history) (j := s 0 0 0) (by omega) (by omega) dX4_write_65 ?_
            refine k_as (x := s 4 0 (s 0 0 0) + 1) (by rw [apM_h]; simp [w3]) ?_
            exact k_iret hx hb hr hlk (by rfl) hP hS dX4_write_66
          · exfalso; omega
        · exfalso; omega
    · exfalso; omega
set_option maxHeartbeats 4000000 in
set_option maxRecDepth 100000 in
/-- write: no key -/
theorem c_X4_write_1 (l : Launch) {g : GG} {a : Nat → Nat} {n : Nat} {A : Nat → Prop} (hA : Ap A a 8) {s : CS} (hm : Mh n s) {x : Int32} {v : Nat} (hbadk : x < 0 ∨ nI 8 ≤ x) : Met l yX4_write wsX4_write ({ frames := 2, cells := 0, slots := 0, locals := 43 }) (pC g [.ref (a 0), .int (x), .int (nI v)] (wM g a s)) (qI g (nI 0) (wM g a (w3 s 9 0 0 1)) A) 0 0 A := by
  refine k_start (cc := cX4_write) (maxL := 4) (ret := (some .int)) (by decide) rfl (Nat.le_of_ble_eq_true rfl) ?_
  intro pr en s0 m args below meth cd hx hb hml hr hlk hts hown hin hC hP ls hl
  have hS : va_S A s0.heap s0.heap [] := va_S.rf
  have hfx : CallFix pr m cd cX4_write 4 s0 args wsX4_write RX4 := ⟨hx, hb, hml, hown, hts⟩
  have hu4 : ∀ w ∈ wsX40, w.before args s0 = true := fun w h => hts w ((by decide +kernel : ∀ w ∈ wsX40, w ∈ wsX4_write) w h)
  have hl : lv_has ls 4 [(0, .ref (a 0)), (1, .int (x)), (2, .int (nI v))] := hl
  have m0 := hm.1
  have m1 := hm.2.1
  refine lv_aload_n hx hb dX4_write_0 rfl (lv_at hl 0 rfl) ?_
  refine kV_i (r := nI (s 0 0 0)) (w2 := wM g a s) (As := []) (b := a 0) (rest := []) (A1 := A) hfx (c_X4_first l (n := n) hA (s := s) (x := s 0 0 0) (rfl)) (cwV 0 hts gX4_write_X4_first rfl rfl rfl (by decide +kernel) ⟨by decide, by decide⟩) (va_recv hC.1 hP (ci := 4) rfl (wM_obj)) hC hP hS (fun _ h => h) rfl hl.1 rfl (Nat.le_of_ble_eq_true rfl) dX4_write_1 ⟨Nat.le_of_ble_eq_true rfl, Nat.le_of_ble_eq_true rfl⟩ (fun H locs hP hS _ _ => ?_)
  refine lv_istore_n (lv' := [(3, .int (nI (s 0 0 0))), (0, .ref (a 0)), (1, .int (x)), (2, .int (nI v))]) hx hb dX4_write_4 rfl hl (by decide) rfl (fun ls hl => ?_)
  refine lv_aload_n hx hb dX4_write_5 rfl (lv_at hl 1 rfl) ?_
  refine lv_iload_n hx hb dX4_write_6 rfl (lv_at hl 2 rfl) ?_
  refine lv_if_lt (tgt := 16) hx hb dX4_write_7 (by decide) (fun c7 => ?_) (fun c7 => ?_)
  · skip
    refine k_ic (x := 1) hx hb dX4_write_16 (by decide) ?_
    refine lv_goto (tgt := 45) hx hb dX4_write_17 (by decide) ?_
    refine kV_i (r := nI 1) (w2 := wM g a (w3 s 9 0 0 1)) (As := [.int (nI 1)]) (b := a 0) (rest := []) (A1 := A) hfx (c_X4_throwsIt l (n := n) hA (s := s) (c := 1) (by decide)) (cwV 1 hts gX4_write_X4_throwsIt rfl rfl rfl (by decide +kernel) ⟨by decide, by decide⟩) (va_recv hC.1 hP (ci := 4) rfl (wM_obj)) hC hP hS (fun _ h => h) rfl hl.1 rfl (Nat.le_of_ble_eq_true rfl) dX4_write_45 ⟨Nat.le_of_ble_eq_true rfl, Nat.le_of_ble_eq_true rfl⟩ (fun H locs hP hS _ _ => ?_)
    refine k_if_eq (tgt := 53) hx hb dX4_write_48 (by decide) (by omega) (fun c48 => ?_) (fun c48 => ?_)
    · exfalso; omega
    · skip
      refine k_ic (x := 0) hx hb dX4_write_51 (by decide) ?_
      exact k_iret hx hb hr hlk (by rfl) hP hS dX4_write_52
  · skip
    refine lv_iload_n hx hb dX4_write_10 rfl (lv_at hl 2 rfl) ?_
    refine k_bi (x := 7) hx hb dX4_write_11 (by decide) ?_
    refine lv_icmp_le (tgt := 20) hx hb dX4_write_13 (by decide) (fun c13 => ?_) (fun c13 => ?_)
    · exact absurd c13 (k78 (hbadk.resolve_left c7))
    · skip
      refine k_ic (x := 1) hx hb dX4_write_16 (by decide) ?_
      refine lv_goto (tgt := 45) hx hb dX4_write_17 (by decide) ?_
      refine kV_i (r := nI 1) (w2 := wM g a (w3 s 9 0 0 1)) (As := [.int (nI 1)]) (b := a 0) (rest := []) (A1 := A) hfx (c_X4_throwsIt l (n := n) hA (s := s) (c := 1) (by decide)) (cwV 1 hts gX4_write_X4_throwsIt rfl rfl rfl (by decide +kernel) ⟨by decide, by decide⟩) (va_recv hC.1 hP (ci := 4) rfl (wM_obj)) hC hP hS (fun _ h => h) rfl hl.1 rfl (Nat.le_of_ble_eq_true rfl) dX4_write_45 ⟨Nat.le_of_ble_eq_true rfl, Nat.le_of_ble_eq_true rfl⟩ (fun H locs hP hS _ _ => ?_)
      refine k_if_eq (tgt := 53) hx hb dX4_write_48 (by decide) (by omega) (fun c48 => ?_) (fun c48 => ?_)
      · exfalso; omega
      · skip
        refine k_ic (x := 0) hx hb dX4_write_51 (by decide) ?_
        exact k_iret hx hb hr hlk (by rfl) hP hS dX4_write_52
set_option maxHeartbeats 4000000 in
set_option maxRecDepth 100000 in
/-- write: refused -/
theorem c_X4_write_2 (l : Launch) {g : GG} {a : Nat → Nat} {n : Nat} {A : Nat → Prop} (hA : Ap A a 8) {s : CS} (hm : Mh n s) {j v : Nat} (hj : j < 8) (hbad : s 2 0 (s 0 0 0) ≠ 0 ∨ s 4 0 (s 0 0 0) = 40) : Met l yX4_write wsX4_write ({ frames := 2, cells := 0, slots := 0, locals := 43 }) (pC g [.ref (a 0), .int (nI j), .int (nI v)] (wM g a s)) (qI g (nI 0) (wM g a (w3 s 9 0 0 2)) A) 0 0 A := by
  refine k_start (cc := cX4_write) (maxL := 4) (ret := (some .int)) (by decide) rfl (Nat.le_of_ble_eq_true rfl) ?_
  intro pr en s0 m args below meth cd hx hb hml hr hlk hts hown hin hC hP ls hl
  have hS : va_S A s0.heap s0.heap [] := va_S.rf
  have hfx : CallFix pr m cd cX4_write 4 s0 args wsX4_write RX4 := ⟨hx, hb, hml, hown, hts⟩
  have hu4 : ∀ w ∈ wsX40, w.before args s0 = true := fun w h => hts w ((by decide +kernel : ∀ w ∈ wsX40, w ∈ wsX4_write) w h)
  have hl : lv_has ls 4 [(0, .ref (a 0)), (1, .int (nI j)), (2, .int (nI v))] := hl
  have m0 := hm.1
  have m1 := hm.2.1
  have f1 := hm.ch 0 (by omega)
  have f2 := hm.nd _ f1
  refine lv_aload_n hx hb dX4_write_0 rfl (lv_at hl 0 rfl) ?_
  refine kV_i (r := nI (s 0 0 0)) (w2 := wM g a s) (As := []) (b := a 0) (rest := []) (A1 := A) hfx (c_X4_first l (n := n) hA (s := s) (x := s 0 0 0) (rfl)) (cwV 0 hts gX4_write_X4_first rfl rfl rfl (by decide +kernel) ⟨by decide, by decide⟩) (va_recv hC.1 hP (ci := 4) rfl (wM_obj)) hC hP hS (fun _ h => h) rfl hl.1 rfl (Nat.le_of_ble_eq_true rfl) dX4_write_1 ⟨Nat.le_of_ble_eq_true rfl, Nat.le_of_ble_eq_true rfl⟩ (fun H locs hP hS _ _ => ?_)
  refine lv_istore_n (lv' := [(3, .int (nI (s 0 0 0))), (0, .ref (a 0)), (1, .int (nI j)), (2, .int (nI v))]) hx hb dX4_write_4 rfl hl (by decide) rfl (fun ls hl => ?_)
  refine lv_aload_n hx hb dX4_write_5 rfl (lv_at hl 1 rfl) ?_
  refine lv_iload_n hx hb dX4_write_6 rfl (lv_at hl 2 rfl) ?_
  refine lv_if_lt (tgt := 16) hx hb dX4_write_7 (by decide) (fun c7 => ?_) (fun c7 => ?_)
  · exact absurd c7 (nI_pos (by omega))
  · skip
    refine lv_iload_n hx hb dX4_write_10 rfl (lv_at hl 2 rfl) ?_
    refine k_bi (x := 7) hx hb dX4_write_11 (by decide) ?_
    refine k_icmp_le (tgt := 20) hx hb dX4_write_13 (by decide) (by omega) (by omega) (fun c13 => ?_) (fun c13 => ?_)
    · skip
      refine lv_aload_n hx hb dX4_write_20 rfl (lv_at hl 1 rfl) ?_
      refine va_get (D := g.1) (C := RX4) (T := TX4) (N := 11) (ci := 4) hx hb hu4 (fun _ h => h) hown hC.1 hP _ (wM_obj) rfl 4 (by decide) (hts (.fieldLink RX4 13 "SplicedChainModel" "failed" "[Z") (by decide +kernel)) (fun _ h9 => h9) rfl dX4_write_21 ?_
      refine lv_iload_n hx hb dX4_write_24 rfl (lv_at hl 0 rfl) ?_
      refine k_zald hx hb hC hP _ (wM_failed) (j := s 0 0 0) (by omega) (by omega) dX4_write_25 ?_
      refine k_if_ne (tgt := 40) hx hb dX4_write_26 (by decide) (by omega) (fun c26 => ?_) (fun c26 => ?_)
      · skip
        refine k_ic (x := 2) hx hb dX4_write_40 (by decide) ?_
        refine lv_goto (tgt := 45) hx hb dX4_write_41 (by decide) ?_
        refine kV_i (r := nI 1) (w2 := wM g a (w3 s 9 0 0 2)) (As := [.int (nI 2)]) (b := a 0) (rest := []) (A1 := A) hfx (c_X4_throwsIt l (n := n) hA (s := s) (c := 2) (by decide)) (cwV 1 hts gX4_write_X4_throwsIt rfl rfl rfl (by decide +kernel) ⟨by decide, by decide⟩) (va_recv hC.1 hP (ci := 4) rfl (wM_obj)) hC hP hS (fun _ h => h) rfl hl.1 rfl (Nat.le_of_ble_eq_true rfl) dX4_write_45 ⟨Nat.le_of_ble_eq_true rfl, Nat.le_of_ble_eq_true rfl⟩ (fun H locs hP hS _ _ => ?_)
        refine k_if_eq (tgt := 53) hx hb dX4_write_48 (by decide) (by omega) (fun c48 => ?_) (fun c48 => ?_)
        · exfalso; omega
        · skip
          refine k_ic (x := 0) hx hb dX4_write_51 (by decide) ?_
          exact k_iret hx hb hr hlk (by rfl) hP hS dX4_write_52
      · skip
        refine lv_aload_n hx hb dX4_write_29 rfl (lv_at hl 1 rfl) ?_
        refine va_get (D := g.1) (C := RX4) (T := TX4) (N := 11) (ci := 4) hx hb hu4 (fun _ h => h) hown hC.1 hP _ (wM_obj) rfl 6 (by decide) (hts (.fieldLink RX4 20 "SplicedChainModel" "history" "[I") (by decide +kernel)) (fun _ h9 => h9) rfl dX4_write_30 ?_
        refine lv_iload_n hx hb dX4_write_33 rfl (lv_at hl 0 rfl) ?_
        refine k_iald hx hb hC hP _ (wM_history) (j := s 0 0 0) (by omega) (by omega) dX4_write_34 ?_
        refine k_bi (x := 40) hx hb dX4_write_35 (by decide) ?_
        refine k_icmp_ne (tgt := 44) hx hb dX4_write_37 (by decide) (by omega) (by omega) (fun c37 => ?_) (fun c37 => ?_)
        · exfalso; omega
        · skip
          refine k_ic (x := 2) hx hb dX4_write_40 (by decide) ?_
          refine lv_goto (tgt := 45) hx hb dX4_write_41 (by decide) ?_
          refine kV_i (r := nI 1) (w2 := wM g a (w3 s 9 0 0 2)) (As := [.int (nI 2)]) (b := a 0) (rest := []) (A1 := A) hfx (c_X4_throwsIt l (n := n) hA (s := s) (c := 2) (by decide)) (cwV 1 hts gX4_write_X4_throwsIt rfl rfl rfl (by decide +kernel) ⟨by decide, by decide⟩) (va_recv hC.1 hP (ci := 4) rfl (wM_obj)) hC hP hS (fun _ h => h) rfl hl.1 rfl (Nat.le_of_ble_eq_true rfl) dX4_write_45 ⟨Nat.le_of_ble_eq_true rfl, Nat.le_of_ble_eq_true rfl⟩ (fun H locs hP hS _ _ => ?_)
          refine k_if_eq (tgt := 53) hx hb dX4_write_48 (by decide) (by omega) (fun c48 => ?_) (fun c48 => ?_)
          · exfalso; omega
          · skip
            refine k_ic (x := 0) hx hb dX4_write_51 (by decide) ?_
            exact k_iret hx hb hr hlk (by rfl) hP hS dX4_write_52
    · exfalso; omega
set_option maxHeartbeats 4000000 in
set_option maxRecDepth 100000 in
/-- read -/
theorem c_X4_read (l : Launch) {g : GG} {a : Nat → Nat} {n : Nat} {A : Nat → Prop} (hA : Ap A a 8) {s : CS} (hm : Mh n s) {j : Nat} (hj : j < 8) (hfl : s 2 0 (s 0 0 (s 1 0 0 - 1)) = 0) : Met l yX4_read wsX4_read ({ frames := 1, cells := 0, slots := 0, locals := 24 }) (pC g [.ref (a 0), .int (nI j)] (wM g a s)) (qI g (nI (valF (w3 s 9 0 0 0) (s 0 0 (s 1 0 0 - 1)) j (s 4 0 (s 0 0 (s 1 0 0 - 1))))) (wM g a (w3 s 9 0 0 0)) A) 0 0 A := by
  refine k_start (cc := cX4_read) (maxL := 3) (ret := (some .int)) (by decide) rfl (Nat.le_of_ble_eq_true rfl) ?_
  intro pr en s0 m args below meth cd hx hb hml hr hlk hts hown hin hC hP ls hl
  have hS : va_S A s0.heap s0.heap [] := va_S.rf
  have hfx : CallFix pr m cd cX4_read 3 s0 args wsX4_read RX4 := ⟨hx, hb, hml, hown, hts⟩
  have hu4 : ∀ w ∈ wsX40, w.before args s0 = true := fun w h => hts w ((by decide +kernel : ∀ w ∈ wsX40, w ∈ wsX4_read) w h)
  have hl : lv_has ls 3 [(0, .ref (a 0)), (1, .int (nI j))] := hl
  have m0 := hm.1
  have m1 := hm.2.1
  have f1 := hm.ch (s 1 0 0 - 1) (by omega)
  refine lv_aload_n hx hb dX4_read_0 rfl (lv_at hl 0 rfl) ?_
  refine kV_i (r := nI (s 0 0 (s 1 0 0 - 1))) (w2 := wM g a s) (As := []) (b := a 0) (rest := []) (A1 := A) hfx (c_X4_last l (n := n) hA (s := s) (L := s 1 0 0) (x := s 0 0 (s 1 0 0 - 1)) (rfl) (rfl) (by omega)) (cwV 0 hts gX4_read_X4_last rfl rfl rfl (by decide +kernel) ⟨by decide, by decide⟩) (va_recv hC.1 hP (ci := 4) rfl (wM_obj)) hC hP hS (fun _ h => h) rfl hl.1 rfl (Nat.le_of_ble_eq_true rfl) dX4_read_1 ⟨Nat.le_of_ble_eq_true rfl, Nat.le_of_ble_eq_true rfl⟩ (fun H locs hP hS _ _ => ?_)
  refine lv_istore_n (lv' := [(2, .int (nI (s 0 0 (s 1 0 0 - 1)))), (0, .ref (a 0)), (1, .int (nI j))]) hx hb dX4_read_4 rfl hl (by decide) rfl (fun ls hl => ?_)
  refine lv_aload_n hx hb dX4_read_5 rfl (lv_at hl 1 rfl) ?_
  refine lv_iload_n hx hb dX4_read_6 rfl (lv_at hl 2 rfl) ?_
  refine lv_if_lt (tgt := 16) hx hb dX4_read_7 (by decide) (fun c7 => ?_) (fun c7 => ?_)
  · exact absurd c7 (nI_pos (by omega))
  · skip
    refine lv_iload_n hx hb dX4_read_10 rfl (lv_at hl 2 rfl) ?_
    refine k_bi (x := 7) hx hb dX4_read_11 (by decide) ?_
    refine k_icmp_le (tgt := 20) hx hb dX4_read_13 (by decide) (by omega) (by omega) (fun c13 => ?_) (fun c13 => ?_)
    · skip
      refine lv_aload_n hx hb dX4_read_20 rfl (lv_at hl 1 rfl) ?_
      refine va_get (D := g.1) (C := RX4) (T := TX4) (N := 11) (ci := 4) hx hb hu4 (fun _ h => h) hown hC.1 hP _ (wM_obj) rfl 4 (by decide) (hts (.fieldLink RX4 13 "SplicedChainModel" "failed" "[Z") (by decide +kernel)) (fun _ h9 => h9) rfl dX4_read_21 ?_
      refine lv_iload_n hx hb dX4_read_24 rfl (lv_at hl 0 rfl) ?_
      refine k_zald hx hb hC hP _ (wM_failed) (j := s 0 0 (s 1 0 0 - 1)) (by omega) (by omega) dX4_read_25 ?_
      refine k_if_eq (tgt := 33) hx hb dX4_read_26 (by decide) (by omega) (fun c26 => ?_) (fun c26 => ?_)
      · skip
        refine k_ic (x := 0) hx hb dX4_read_33 (by decide) ?_
        refine kV_i (r := nI 0) (w2 := wM g a (w3 s 9 0 0 0)) (As := [.int (nI 0)]) (b := a 0) (rest := []) (A1 := A) hfx (c_X4_throwsIt_0 l (n := n) hA (s := s)) (cwV 1 hts gX4_read_X4_throwsIt rfl rfl rfl (by decide +kernel) ⟨by decide, by decide⟩) (va_recv hC.1 hP (ci := 4) rfl (wM_obj)) hC hP hS (fun _ h => h) rfl hl.1 rfl (Nat.le_of_ble_eq_true rfl) dX4_read_34 ⟨Nat.le_of_ble_eq_true rfl, Nat.le_of_ble_eq_true rfl⟩ (fun H locs hP hS _ _ => ?_)
        refine k_if_eq (tgt := 42) hx hb dX4_read_37 (by decide) (by omega) (fun c37 => ?_) (fun c37 => ?_)
        · skip
          refine lv_aload_n hx hb dX4_read_42 rfl (lv_at hl 1 rfl) ?_
          refine lv_iload_n hx hb dX4_read_43 rfl (lv_at hl 0 rfl) ?_
          refine lv_iload_n hx hb dX4_read_44 rfl (lv_at hl 2 rfl) ?_
          refine kV_i (r := nI (valF (w3 s 9 0 0 0) (s 0 0 (s 1 0 0 - 1)) j ((w3 s 9 0 0 0) 4 0 (s 0 0 (s 1 0 0 - 1))))) (w2 := wM g a (w3 s 9 0 0 0)) (As := [.int (nI (s 0 0 (s 1 0 0 - 1))), .int (nI j)]) (b := a 0) (rest := []) (A1 := A) hfx (c_X4_valueOf l hA (s := (w3 s 9 0 0 0)) (hm.m9) (nd := s 0 0 (s 1 0 0 - 1)) (k := j) (by omega) (by omega)) (cwV 2 hts gX4_read_X4_valueOf rfl rfl rfl (by decide +kernel) ⟨by decide, by decide⟩) (va_recv hC.1 hP (ci := 4) rfl (wM_obj)) hC hP hS (fun _ h => h) rfl hl.1 rfl (Nat.le_of_ble_eq_true rfl) dX4_read_45 ⟨Nat.le_of_ble_eq_true rfl, Nat.le_of_ble_eq_true rfl⟩ (fun H locs hP hS _ _ => ?_)
          exact k_iret hx hb hr hlk (by simp [w3]) hP hS dX4_read_48
        · exfalso; omega
      · exfalso; omega
    · exfalso; omega
set_option maxHeartbeats 4000000 in
set_option maxRecDepth 100000 in
/-- read: no key -/
theorem c_X4_read_1 (l : Launch) {g : GG} {a : Nat → Nat} {n : Nat} {A : Nat → Prop} (hA : Ap A a 8) {s : CS} (hm : Mh n s) {x : Int32} (hbadk : x < 0 ∨ nI 8 ≤ x) : Met l yX4_read wsX4_read ({ frames := 1, cells := 0, slots := 0, locals := 24 }) (pC g [.ref (a 0), .int (x)] (wM g a s)) (qI g (nI 0) (wM g a (w3 s 9 0 0 1)) A) 0 0 A := by
  refine k_start (cc := cX4_read) (maxL := 3) (ret := (some .int)) (by decide) rfl (Nat.le_of_ble_eq_true rfl) ?_
  intro pr en s0 m args below meth cd hx hb hml hr hlk hts hown hin hC hP ls hl
  have hS : va_S A s0.heap s0.heap [] := va_S.rf
  have hfx : CallFix pr m cd cX4_read 3 s0 args wsX4_read RX4 := ⟨hx, hb, hml, hown, hts⟩
  have hu4 : ∀ w ∈ wsX40, w.before args s0 = true := fun w h => hts w ((by decide +kernel : ∀ w ∈ wsX40, w ∈ wsX4_read) w h)
  have hl : lv_has ls 3 [(0, .ref (a 0)), (1, .int (x))] := hl
  have m0 := hm.1
  have m1 := hm.2.1
  refine lv_aload_n hx hb dX4_read_0 rfl (lv_at hl 0 rfl) ?_
  refine kV_i (r := nI (s 0 0 (s 1 0 0 - 1))) (w2 := wM g a s) (As := []) (b := a 0) (rest := []) (A1 := A) hfx (c_X4_last l (n := n) hA (s := s) (L := s 1 0 0) (x := s 0 0 (s 1 0 0 - 1)) (rfl) (rfl) (by omega)) (cwV 0 hts gX4_read_X4_last rfl rfl rfl (by decide +kernel) ⟨by decide, by decide⟩) (va_recv hC.1 hP (ci := 4) rfl (wM_obj)) hC hP hS (fun _ h => h) rfl hl.1 rfl (Nat.le_of_ble_eq_true rfl) dX4_read_1 ⟨Nat.le_of_ble_eq_true rfl, Nat.le_of_ble_eq_true rfl⟩ (fun H locs hP hS _ _ => ?_)
  refine lv_istore_n (lv' := [(2, .int (nI (s 0 0 (s 1 0 0 - 1)))), (0, .ref (a 0)), (1, .int (x))]) hx hb dX4_read_4 rfl hl (by decide) rfl (fun ls hl => ?_)
  refine lv_aload_n hx hb dX4_read_5 rfl (lv_at hl 1 rfl) ?_
  refine lv_iload_n hx hb dX4_read_6 rfl (lv_at hl 2 rfl) ?_
  refine lv_if_lt (tgt := 16) hx hb dX4_read_7 (by decide) (fun c7 => ?_) (fun c7 => ?_)
  · skip
    refine k_ic (x := 1) hx hb dX4_read_16 (by decide) ?_
    refine lv_goto (tgt := 34) hx hb dX4_read_17 (by decide) ?_
    refine kV_i (r := nI 1) (w2 := wM g a (w3 s 9 0 0 1)) (As := [.int (nI 1)]) (b := a 0) (rest := []) (A1 := A) hfx (c_X4_throwsIt l (n := n) hA (s := s) (c := 1) (by decide)) (cwV 1 hts gX4_read_X4_throwsIt rfl rfl rfl (by decide +kernel) ⟨by decide, by decide⟩) (va_recv hC.1 hP (ci := 4) rfl (wM_obj)) hC hP hS (fun _ h => h) rfl hl.1 rfl (Nat.le_of_ble_eq_true rfl) dX4_read_34 ⟨Nat.le_of_ble_eq_true rfl, Nat.le_of_ble_eq_true rfl⟩ (fun H locs hP hS _ _ => ?_)
    refine k_if_eq (tgt := 42) hx hb dX4_read_37 (by decide) (by omega) (fun c37 => ?_) (fun c37 => ?_)
    · exfalso; omega
    · skip
      refine k_ic (x := 0) hx hb dX4_read_40 (by decide) ?_
      exact k_iret hx hb hr hlk (by rfl) hP hS dX4_read_41
  · skip
    refine lv_iload_n hx hb dX4_read_10 rfl (lv_at hl 2 rfl) ?_
    refine k_bi (x := 7) hx hb dX4_read_11 (by decide) ?_
    refine lv_icmp_le (tgt := 20) hx hb dX4_read_13 (by decide) (fun c13 => ?_) (fun c13 => ?_)
    · exact absurd c13 (k78 (hbadk.resolve_left c7))
    · skip
      refine k_ic (x := 1) hx hb dX4_read_16 (by decide) ?_
      refine lv_goto (tgt := 34) hx hb dX4_read_17 (by decide) ?_
      refine kV_i (r := nI 1) (w2 := wM g a (w3 s 9 0 0 1)) (As := [.int (nI 1)]) (b := a 0) (rest := []) (A1 := A) hfx (c_X4_throwsIt l (n := n) hA (s := s) (c := 1) (by decide)) (cwV 1 hts gX4_read_X4_throwsIt rfl rfl rfl (by decide +kernel) ⟨by decide, by decide⟩) (va_recv hC.1 hP (ci := 4) rfl (wM_obj)) hC hP hS (fun _ h => h) rfl hl.1 rfl (Nat.le_of_ble_eq_true rfl) dX4_read_34 ⟨Nat.le_of_ble_eq_true rfl, Nat.le_of_ble_eq_true rfl⟩ (fun H locs hP hS _ _ => ?_)
      refine k_if_eq (tgt := 42) hx hb dX4_read_37 (by decide) (by omega) (fun c37 => ?_) (fun c37 => ?_)
      · exfalso; omega
      · skip
        refine k_ic (x := 0) hx hb dX4_read_40 (by decide) ?_
        exact k_iret hx hb hr hlk (by rfl) hP hS dX4_read_41
set_option maxHeartbeats 4000000 in
set_option maxRecDepth 100000 in
/-- read: refused -/
theorem c_X4_read_2 (l : Launch) {g : GG} {a : Nat → Nat} {n : Nat} {A : Nat → Prop} (hA : Ap A a 8) {s : CS} (hm : Mh n s) {j : Nat} (hj : j < 8) (hfl : s 2 0 (s 0 0 (s 1 0 0 - 1)) ≠ 0) : Met l yX4_read wsX4_read ({ frames := 1, cells := 0, slots := 0, locals := 24 }) (pC g [.ref (a 0), .int (nI j)] (wM g a s)) (qI g (nI 0) (wM g a (w3 s 9 0 0 2)) A) 0 0 A := by
  refine k_start (cc := cX4_read) (maxL := 3) (ret := (some .int)) (by decide) rfl (Nat.le_of_ble_eq_true rfl) ?_
  intro pr en s0 m args below meth cd hx hb hml hr hlk hts hown hin hC hP ls hl
  have hS : va_S A s0.heap s0.heap [] := va_S.rf
  have hfx : CallFix pr m cd cX4_read 3 s0 args wsX4_read RX4 := ⟨hx, hb, hml, hown, hts⟩
  have hu4 : ∀ w ∈ wsX40, w.before args s0 = true := fun w h => hts w ((by decide +kernel : ∀ w ∈ wsX40, w ∈ wsX4_read) w h)
  have hl : lv_has ls 3 [(0, .ref (a 0)), (1, .int (nI j))] := hl
  have m0 := hm.1
  have m1 := hm.2.1
  have f1 := hm.ch (s 1 0 0 - 1) (by omega)
  have f2 := hm.nd _ f1
  refine lv_aload_n hx hb dX4_read_0 rfl (lv_at hl 0 rfl) ?_
  refine kV_i (r := nI (s 0 0 (s 1 0 0 - 1))) (w2 := wM g a s) (As := []) (b := a 0) (rest := []) (A1 := A) hfx (c_X4_last l (n := n) hA (s := s) (L := s 1 0 0) (x := s 0 0 (s 1 0 0 - 1)) (rfl) (rfl) (by omega)) (cwV 0 hts gX4_read_X4_last rfl rfl rfl (by decide +kernel) ⟨by decide, by decide⟩) (va_recv hC.1 hP (ci := 4) rfl (wM_obj)) hC hP hS (fun _ h => h) rfl hl.1 rfl (Nat.le_of_ble_eq_true rfl) dX4_read_1 ⟨Nat.le_of_ble_eq_true rfl, Nat.le_of_ble_eq_true rfl⟩ (fun H locs hP hS _ _ => ?_)
  refine lv_istore_n (lv' := [(2, .int (nI (s 0 0 (s 1 0 0 - 1)))), (0, .ref (a 0)), (1, .int (nI j))]) hx hb dX4_read_4 rfl hl (by decide) rfl (fun ls hl => ?_)
  refine lv_aload_n hx hb dX4_read_5 rfl (lv_at hl 1 rfl) ?_
  refine lv_iload_n hx hb dX4_read_6 rfl (lv_at hl 2 rfl) ?_
  refine lv_if_lt (tgt := 16) hx hb dX4_read_7 (by decide) (fun c7 => ?_) (fun c7 => ?_)
  · exact absurd c7 (nI_pos (by omega))
  · skip
    refine lv_iload_n hx hb dX4_read_10 rfl (lv_at hl 2 rfl) ?_
    refine k_bi (x := 7) hx hb dX4_read_11 (by decide) ?_
    refine k_icmp_le (tgt := 20) hx hb dX4_read_13 (by decide) (by omega) (by omega) (fun c13 => ?_) (fun c13 => ?_)
    · skip
      refine lv_aload_n hx hb dX4_read_20 rfl (lv_at hl 1 rfl) ?_
      refine va_get (D := g.1) (C := RX4) (T := TX4) (N := 11) (ci := 4) hx hb hu4 (fun _ h => h) hown hC.1 hP _ (wM_obj) rfl 4 (by decide) (hts (.fieldLink RX4 13 "SplicedChainModel" "failed" "[Z") (by decide +kernel)) (fun _ h9 => h9) rfl dX4_read_21 ?_
      refine lv_iload_n hx hb dX4_read_24 rfl (lv_at hl 0 rfl) ?_
      refine k_zald hx hb hC hP _ (wM_failed) (j := s 0 0 (s 1 0 0 - 1)) (by omega) (by omega) dX4_read_25 ?_
      refine k_if_eq (tgt := 33) hx hb dX4_read_26 (by decide) (by omega) (fun c26 => ?_) (fun c26 => ?_)
      · exfalso; omega
      · skip
        refine k_ic (x := 2) hx hb dX4_read_29 (by decide) ?_
        refine lv_goto (tgt := 34) hx hb dX4_read_30 (by decide) ?_
        refine kV_i (r := nI 1) (w2 := wM g a (w3 s 9 0 0 2)) (As := [.int (nI 2)]) (b := a 0) (rest := []) (A1 := A) hfx (c_X4_throwsIt l (n := n) hA (s := s) (c := 2) (by decide)) (cwV 1 hts gX4_read_X4_throwsIt rfl rfl rfl (by decide +kernel) ⟨by decide, by decide⟩) (va_recv hC.1 hP (ci := 4) rfl (wM_obj)) hC hP hS (fun _ h => h) rfl hl.1 rfl (Nat.le_of_ble_eq_true rfl) dX4_read_34 ⟨Nat.le_of_ble_eq_true rfl, Nat.le_of_ble_eq_true rfl⟩ (fun H locs hP hS _ _ => ?_)
        refine k_if_eq (tgt := 42) hx hb dX4_read_37 (by decide) (by omega) (fun c37 => ?_) (fun c37 => ?_)
        · exfalso; omega
        · skip
          refine k_ic (x := 0) hx hb dX4_read_40 (by decide) ?_
          exact k_iret hx hb hr hlk (by rfl) hP hS dX4_read_41
    · exfalso; omega
set_option maxHeartbeats 4000000 in
set_option maxRecDepth 100000 in
/-- deliver: no node -/
theorem c_X4_deliver_1 (l : Launch) {g : GG} {a : Nat → Nat} {n : Nat} {A : Nat → Prop} (hA : Ap A a 8) {s : CS} (hm : Mh n s) {x : Int32} (hbad : x < 0 ∨ nI n ≤ x) : Met l yX4_deliver wsX4_deliver ({ frames := 2, cells := 0, slots := 0, locals := 45 }) (pC g [.ref (a 0), .int (x)] (wM g a s)) (qI g (nI 0) (wM g a (w3 s 9 0 0 1)) A) 0 0 A := by
  refine k_start (cc := cX4_deliver) (maxL := 4) (ret := (some .int)) (by decide) rfl (Nat.le_of_ble_eq_true rfl) ?_
  intro pr en s0 m args below meth cd hx hb hml hr hlk hts hown hin hC hP ls hl
  have hS : va_S A s0.heap s0.heap [] := va_S.rf
  have hfx : CallFix pr m cd cX4_deliver 4 s0 args wsX4_deliver RX4 := ⟨hx, hb, hml, hown, hts⟩
  have hu4 : ∀ w ∈ wsX40, w.before args s0 = true := fun w h => hts w ((by decide +kernel : ∀ w ∈ wsX40, w ∈ wsX4_deliver) w h)
  have hl : lv_has ls 4 [(0, .ref (a 0)), (1, .int (x))] := hl
  have m0 := hm.1
  have m1 := hm.2.1
  refine lv_aload_n hx hb dX4_deliver_0 rfl (lv_at hl 0 rfl) ?_
  refine lv_aload_n hx hb dX4_deliver_1 rfl (lv_at hl 0 rfl) ?_
  refine lv_iload_n hx hb dX4_deliver_2 rfl (lv_at hl 1 rfl) ?_
  refine kV_i (r := nI 0) (w2 := wM g a s) (As := [.int (x)]) (b := a 0) (rest := [.ref (a 0)]) (A1 := A) hfx (c_X4_isNode_no l hA (s := s) (hm) (x := x) hbad) (cwV 1 hts gX4_deliver_X4_isNode rfl rfl rfl (by decide +kernel) ⟨by decide, by decide⟩) (va_recv hC.1 hP (ci := 4) rfl (wM_obj)) hC hP hS (fun _ h => h) rfl hl.1 rfl (Nat.le_of_ble_eq_true rfl) dX4_deliver_3 ⟨Nat.le_of_ble_eq_true rfl, Nat.le_of_ble_eq_true rfl⟩ (fun H locs hP hS _ _ => ?_)
  refine k_if_ne (tgt := 13) hx hb dX4_deliver_6 (by decide) (by omega) (fun c6 => ?_) (fun c6 => ?_)
  · exfalso; omega
  · skip
    refine k_ic (x := 1) hx hb dX4_deliver_9 (by decide) ?_
    refine lv_goto (tgt := 39) hx hb dX4_deliver_10 (by decide) ?_
    refine kV_i (r := nI 1) (w2 := wM g a (w3 s 9 0 0 1)) (As := [.int (nI 1)]) (b := a 0) (rest := []) (A1 := A) hfx (c_X4_throwsIt l (n := n) hA (s := s) (c := 1) (by decide)) (cwV 1 hts gX4_deliver_X4_throwsIt rfl rfl rfl (by decide +kernel) ⟨by decide, by decide⟩) (va_recv hC.1 hP (ci := 4) rfl (wM_obj)) hC hP hS (fun _ h => h) rfl hl.1 rfl (Nat.le_of_ble_eq_true rfl) dX4_deliver_39 ⟨Nat.le_of_ble_eq_true rfl, Nat.le_of_ble_eq_true rfl⟩ (fun H locs hP hS _ _ => ?_)
    refine k_if_eq (tgt := 47) hx hb dX4_deliver_42 (by decide) (by omega) (fun c42 => ?_) (fun c42 => ?_)
    · exfalso; omega
    · skip
      refine k_ic (x := 0) hx hb dX4_deliver_45 (by decide) ?_
      exact k_iret hx hb hr hlk (by rfl) hP hS dX4_deliver_46
set_option maxHeartbeats 4000000 in
set_option maxRecDepth 100000 in
/-- deliver: failed -/
theorem c_X4_deliver_2 (l : Launch) {g : GG} {a : Nat → Nat} {n : Nat} {A : Nat → Prop} (hA : Ap A a 8) {s : CS} (hm : Mh n s) {nd : Nat} (hnd : nd < n) (hfl : s 2 0 nd ≠ 0) : Met l yX4_deliver wsX4_deliver ({ frames := 2, cells := 0, slots := 0, locals := 45 }) (pC g [.ref (a 0), .int (nI nd)] (wM g a s)) (qI g (nI 0) (wM g a (w3 s 9 0 0 2)) A) 0 0 A := by
  refine k_start (cc := cX4_deliver) (maxL := 4) (ret := (some .int)) (by decide) rfl (Nat.le_of_ble_eq_true rfl) ?_
  intro pr en s0 m args below meth cd hx hb hml hr hlk hts hown hin hC hP ls hl
  have hS : va_S A s0.heap s0.heap [] := va_S.rf
  have hfx : CallFix pr m cd cX4_deliver 4 s0 args wsX4_deliver RX4 := ⟨hx, hb, hml, hown, hts⟩
  have hu4 : ∀ w ∈ wsX40, w.before args s0 = true := fun w h => hts w ((by decide +kernel : ∀ w ∈ wsX40, w ∈ wsX4_deliver) w h)
  have hl : lv_has ls 4 [(0, .ref (a 0)), (1, .int (nI nd))] := hl
  have m0 := hm.1
  have m1 := hm.2.1
  have f2 := hm.nd nd (by omega)
  refine lv_aload_n hx hb dX4_deliver_0 rfl (lv_at hl 0 rfl) ?_
  refine lv_aload_n hx hb dX4_deliver_1 rfl (lv_at hl 0 rfl) ?_
  refine lv_iload_n hx hb dX4_deliver_2 rfl (lv_at hl 1 rfl) ?_
  refine kV_i (r := nI 1) (w2 := wM g a s) (As := [.int (nI nd)]) (b := a 0) (rest := [.ref (a 0)]) (A1 := A) hfx (c_X4_isNode l hA (s := s) (hm) (j := nd) (by omega)) (cwV 1 hts gX4_deliver_X4_isNode rfl rfl rfl (by decide +kernel) ⟨by decide, by decide⟩) (va_recv hC.1 hP (ci := 4) rfl (wM_obj)) hC hP hS (fun _ h => h) rfl hl.1 rfl (Nat.le_of_ble_eq_true rfl) dX4_deliver_3 ⟨Nat.le_of_ble_eq_true rfl, Nat.le_of_ble_eq_true rfl⟩ (fun H locs hP hS _ _ => ?_)
  refine k_if_ne (tgt := 13) hx hb dX4_deliver_6 (by decide) (by omega) (fun c6 => ?_) (fun c6 => ?_)
  · skip
    refine lv_aload_n hx hb dX4_deliver_13 rfl (lv_at hl 0 rfl) ?_
    refine va_get (D := g.1) (C := RX4) (T := TX4) (N := 11) (ci := 4) hx hb hu4 (fun _ h => h) hown hC.1 hP _ (wM_obj) rfl 4 (by decide) (hts (.fieldLink RX4 13 "SplicedChainModel" "failed" "[Z") (by decide +kernel)) (fun _ h9 => h9) rfl dX4_deliver_14 ?_
    refine lv_iload_n hx hb dX4_deliver_17 rfl (lv_at hl 1 rfl) ?_
    refine k_zald hx hb hC hP _ (wM_failed) (j := nd) (by omega) (by omega) dX4_deliver_18 ?_
    refine k_if_eq (tgt := 26) hx hb dX4_deliver_19 (by decide) (by omega) (fun c19 => ?_) (fun c19 => ?_)
    · exfalso; omega
    · skip
      refine k_ic (x := 2) hx hb dX4_deliver_22 (by decide) ?_
      refine lv_goto (tgt := 39) hx hb dX4_deliver_23 (by decide) ?_
      refine kV_i (r := nI 1) (w2 := wM g a (w3 s 9 0 0 2)) (As := [.int (nI 2)]) (b := a 0) (rest := []) (A1 := A) hfx (c_X4_throwsIt l (n := n) hA (s := s) (c := 2) (by decide)) (cwV 1 hts gX4_deliver_X4_throwsIt rfl rfl rfl (by decide +kernel) ⟨by decide, by decide⟩) (va_recv hC.1 hP (ci := 4) rfl (wM_obj)) hC hP hS (fun _ h => h) rfl hl.1 rfl (Nat.le_of_ble_eq_true rfl) dX4_deliver_39 ⟨Nat.le_of_ble_eq_true rfl, Nat.le_of_ble_eq_true rfl⟩ (fun H locs hP hS _ _ => ?_)
      refine k_if_eq (tgt := 47) hx hb dX4_deliver_42 (by decide) (by omega) (fun c42 => ?_) (fun c42 => ?_)
      · exfalso; omega
      · skip
        refine k_ic (x := 0) hx hb dX4_deliver_45 (by decide) ?_
        exact k_iret hx hb hr hlk (by rfl) hP hS dX4_deliver_46
  · exfalso; omega
set_option maxHeartbeats 4000000 in
set_option maxRecDepth 100000 in
/-- deliver: nothing there -/
theorem c_X4_deliver_3 (l : Launch) {g : GG} {a : Nat → Nat} {n : Nat} {A : Nat → Prop} (hA : Ap A a 8) {s : CS} (hm : Mh n s) {p nd U : Nat} (hnd : nd < n) (hp : p < s 1 0 0) (hpe : s 0 0 p = nd) (hu : ∀ k, k < s 1 0 0 → k ≠ p → s 0 0 k ≠ nd) (hfl : s 2 0 nd = 0) (hle : 0 < p → s 4 0 nd ≤ s 4 0 (s 0 0 (p - 1))) (hU : (if 0 < p ∧ s 3 0 (s 0 0 (p - 1)) ≠ 0 then s 4 0 (s 0 0 (p - 1)) - s 4 0 nd else 0) = U) (h0 : U = 0) : Met l yX4_deliver wsX4_deliver ({ frames := 2, cells := 0, slots := 0, locals := 45 }) (pC g [.ref (a 0), .int (nI nd)] (wM g a s)) (qI g (nI 0) (wM g a (w3 s 9 0 0 3)) A) 0 0 A := by
  refine k_start (cc := cX4_deliver) (maxL := 4) (ret := (some .int)) (by decide) rfl (Nat.le_of_ble_eq_true rfl) ?_
  intro pr en s0 m args below meth cd hx hb hml hr hlk hts hown hin hC hP ls hl
  have hS : va_S A s0.heap s0.heap [] := va_S.rf
  have hfx : CallFix pr m cd cX4_deliver 4 s0 args wsX4_deliver RX4 := ⟨hx, hb, hml, hown, hts⟩
  have hu4 : ∀ w ∈ wsX40, w.before args s0 = true := fun w h => hts w ((by decide +kernel : ∀ w ∈ wsX40, w ∈ wsX4_deliver) w h)
  have hl : lv_has ls 4 [(0, .ref (a 0)), (1, .int (nI nd))] := hl
  have m0 := hm.1
  have m1 := hm.2.1
  refine lv_aload_n hx hb dX4_deliver_0 rfl (lv_at hl 0 rfl) ?_
  refine lv_aload_n hx hb dX4_deliver_1 rfl (lv_at hl 0 rfl) ?_
  refine lv_iload_n hx hb dX4_deliver_2 rfl (lv_at hl 1 rfl) ?_
  refine kV_i (r := nI 1) (w2 := wM g a s) (As := [.int (nI nd)]) (b := a 0) (rest := [.ref (a 0)]) (A1 := A) hfx (c_X4_isNode l hA (s := s) (hm) (j := nd) (by omega)) (cwV 1 hts gX4_deliver_X4_isNode rfl rfl rfl (by decide +kernel) ⟨by decide, by decide⟩) (va_recv hC.1 hP (ci := 4) rfl (wM_obj)) hC hP hS (fun _ h => h) rfl hl.1 rfl (Nat.le_of_ble_eq_true rfl) dX4_deliver_3 ⟨Nat.le_of_ble_eq_true rfl, Nat.le_of_ble_eq_true rfl⟩ (fun H locs hP hS _ _ => ?_)
  refine k_if_ne (tgt := 13) hx hb dX4_deliver_6 (by decide) (by omega) (fun c6 => ?_) (fun c6 => ?_)
  · skip
    refine lv_aload_n hx hb dX4_deliver_13 rfl (lv_at hl 0 rfl) ?_
    refine va_get (D := g.1) (C := RX4) (T := TX4) (N := 11) (ci := 4) hx hb hu4 (fun _ h => h) hown hC.1 hP _ (wM_obj) rfl 4 (by decide) (hts (.fieldLink RX4 13 "SplicedChainModel" "failed" "[Z") (by decide +kernel)) (fun _ h9 => h9) rfl dX4_deliver_14 ?_
    refine lv_iload_n hx hb dX4_deliver_17 rfl (lv_at hl 1 rfl) ?_
    refine k_zald hx hb hC hP _ (wM_failed) (j := nd) (by omega) (by omega) dX4_deliver_18 ?_
    refine k_if_eq (tgt := 26) hx hb dX4_deliver_19 (by decide) (by omega) (fun c19 => ?_) (fun c19 => ?_)
    · skip
      refine lv_aload_n hx hb dX4_deliver_26 rfl (lv_at hl 0 rfl) ?_
      refine lv_iload_n hx hb dX4_deliver_27 rfl (lv_at hl 1 rfl) ?_
      refine kV_i (r := nI U) (w2 := wM g a s) (As := [.int (nI nd)]) (b := a 0) (rest := [.ref (a 0)]) (A1 := A) hfx (c_X4_updatesTo l hA (s := s) (hm) (nd := nd) (p := p) (U := U) hnd (hp) (hpe) (hu) (hle) (hU)) (cwV 1 hts gX4_deliver_X4_updatesTo rfl rfl rfl (by decide +kernel) ⟨by decide, by decide⟩) (va_recv hC.1 hP (ci := 4) rfl (wM_obj)) hC hP hS (fun _ h => h) rfl hl.1 rfl (Nat.le_of_ble_eq_true rfl) dX4_deliver_28 ⟨Nat.le_of_ble_eq_true rfl, Nat.le_of_ble_eq_true rfl⟩ (fun H locs hP hS _ _ => ?_)
      refine k_if_ne (tgt := 38) hx hb dX4_deliver_31 (by decide) (by omega) (fun c31 => ?_) (fun c31 => ?_)
      · exfalso; omega
      · skip
        refine k_ic (x := 3) hx hb dX4_deliver_34 (by decide) ?_
        refine lv_goto (tgt := 39) hx hb dX4_deliver_35 (by decide) ?_
        refine kV_i (r := nI 1) (w2 := wM g a (w3 s 9 0 0 3)) (As := [.int (nI 3)]) (b := a 0) (rest := []) (A1 := A) hfx (c_X4_throwsIt l (n := n) hA (s := s) (c := 3) (by decide)) (cwV 1 hts gX4_deliver_X4_throwsIt rfl rfl rfl (by decide +kernel) ⟨by decide, by decide⟩) (va_recv hC.1 hP (ci := 4) rfl (wM_obj)) hC hP hS (fun _ h => h) rfl hl.1 rfl (Nat.le_of_ble_eq_true rfl) dX4_deliver_39 ⟨Nat.le_of_ble_eq_true rfl, Nat.le_of_ble_eq_true rfl⟩ (fun H locs hP hS _ _ => ?_)
        refine k_if_eq (tgt := 47) hx hb dX4_deliver_42 (by decide) (by omega) (fun c42 => ?_) (fun c42 => ?_)
        · exfalso; omega
        · skip
          refine k_ic (x := 0) hx hb dX4_deliver_45 (by decide) ?_
          exact k_iret hx hb hr hlk (by rfl) hP hS dX4_deliver_46
    · exfalso; omega
  · exfalso; omega
set_option maxHeartbeats 4000000 in
set_option maxRecDepth 100000 in
/-- acknowledge: no node -/
theorem c_X4_acknowledge_1 (l : Launch) {g : GG} {a : Nat → Nat} {n : Nat} {A : Nat → Prop} (hA : Ap A a 8) {s : CS} (hm : Mh n s) {x : Int32} (hbad : x < 0 ∨ nI n ≤ x) : Met l yX4_acknowledge wsX4_acknowledge ({ frames := 2, cells := 0, slots := 0, locals := 45 }) (pC g [.ref (a 0), .int (x)] (wM g a s)) (qI g (nI 0) (wM g a (w3 s 9 0 0 1)) A) 0 0 A := by
  refine k_start (cc := cX4_acknowledge) (maxL := 2) (ret := (some .int)) (by decide) rfl (Nat.le_of_ble_eq_true rfl) ?_
  intro pr en s0 m args below meth cd hx hb hml hr hlk hts hown hin hC hP ls hl
  have hS : va_S A s0.heap s0.heap [] := va_S.rf
  have hfx : CallFix pr m cd cX4_acknowledge 2 s0 args wsX4_acknowledge RX4 := ⟨hx, hb, hml, hown, hts⟩
  have hu4 : ∀ w ∈ wsX40, w.before args s0 = true := fun w h => hts w ((by decide +kernel : ∀ w ∈ wsX40, w ∈ wsX4_acknowledge) w h)
  have hl : lv_has ls 2 [(0, .ref (a 0)), (1, .int (x))] := hl
  have m0 := hm.1
  have m1 := hm.2.1
  refine lv_aload_n hx hb dX4_acknowledge_0 rfl (lv_at hl 0 rfl) ?_
  refine lv_aload_n hx hb dX4_acknowledge_1 rfl (lv_at hl 0 rfl) ?_
  refine lv_iload_n hx hb dX4_acknowledge_2 rfl (lv_at hl 1 rfl) ?_
  refine kV_i (r := nI 0) (w2 := wM g a s) (As := [.int (x)]) (b := a 0) (rest := [.ref (a 0)]) (A1 := A) hfx (c_X4_isNode_no l hA (s := s) (hm) (x := x) hbad) (cwV 1 hts gX4_acknowledge_X4_isNode rfl rfl rfl (by decide +kernel) ⟨by decide, by decide⟩) (va_recv hC.1 hP (ci := 4) rfl (wM_obj)) hC hP hS (fun _ h => h) rfl hl.1 rfl (Nat.le_of_ble_eq_true rfl) dX4_acknowledge_3 ⟨Nat.le_of_ble_eq_true rfl, Nat.le_of_ble_eq_true rfl⟩ (fun H locs hP hS _ _ => ?_)
  refine k_if_ne (tgt := 13) hx hb dX4_acknowledge_6 (by decide) (by omega) (fun c6 => ?_) (fun c6 => ?_)
  · exfalso; omega
  · skip
    refine k_ic (x := 1) hx hb dX4_acknowledge_9 (by decide) ?_
    refine lv_goto (tgt := 39) hx hb dX4_acknowledge_10 (by decide) ?_
    refine kV_i (r := nI 1) (w2 := wM g a (w3 s 9 0 0 1)) (As := [.int (nI 1)]) (b := a 0) (rest := []) (A1 := A) hfx (c_X4_throwsIt l (n := n) hA (s := s) (c := 1) (by decide)) (cwV 1 hts gX4_acknowledge_X4_throwsIt rfl rfl rfl (by decide +kernel) ⟨by decide, by decide⟩) (va_recv hC.1 hP (ci := 4) rfl (wM_obj)) hC hP hS (fun _ h => h) rfl hl.1 rfl (Nat.le_of_ble_eq_true rfl) dX4_acknowledge_39 ⟨Nat.le_of_ble_eq_true rfl, Nat.le_of_ble_eq_true rfl⟩ (fun H locs hP hS _ _ => ?_)
    refine k_if_eq (tgt := 47) hx hb dX4_acknowledge_42 (by decide) (by omega) (fun c42 => ?_) (fun c42 => ?_)
    · exfalso; omega
    · skip
      refine k_ic (x := 0) hx hb dX4_acknowledge_45 (by decide) ?_
      exact k_iret hx hb hr hlk (by rfl) hP hS dX4_acknowledge_46
set_option maxHeartbeats 4000000 in
set_option maxRecDepth 100000 in
/-- acknowledge: failed -/
theorem c_X4_acknowledge_2 (l : Launch) {g : GG} {a : Nat → Nat} {n : Nat} {A : Nat → Prop} (hA : Ap A a 8) {s : CS} (hm : Mh n s) {nd : Nat} (hnd : nd < n) (hfl : s 2 0 nd ≠ 0) : Met l yX4_acknowledge wsX4_acknowledge ({ frames := 2, cells := 0, slots := 0, locals := 45 }) (pC g [.ref (a 0), .int (nI nd)] (wM g a s)) (qI g (nI 0) (wM g a (w3 s 9 0 0 2)) A) 0 0 A := by
  refine k_start (cc := cX4_acknowledge) (maxL := 2) (ret := (some .int)) (by decide) rfl (Nat.le_of_ble_eq_true rfl) ?_
  intro pr en s0 m args below meth cd hx hb hml hr hlk hts hown hin hC hP ls hl
  have hS : va_S A s0.heap s0.heap [] := va_S.rf
  have hfx : CallFix pr m cd cX4_acknowledge 2 s0 args wsX4_acknowledge RX4 := ⟨hx, hb, hml, hown, hts⟩
  have hu4 : ∀ w ∈ wsX40, w.before args s0 = true := fun w h => hts w ((by decide +kernel : ∀ w ∈ wsX40, w ∈ wsX4_acknowledge) w h)
  have hl : lv_has ls 2 [(0, .ref (a 0)), (1, .int (nI nd))] := hl
  have m0 := hm.1
  have m1 := hm.2.1
  have f2 := hm.nd nd (by omega)
  refine lv_aload_n hx hb dX4_acknowledge_0 rfl (lv_at hl 0 rfl) ?_
  refine lv_aload_n hx hb dX4_acknowledge_1 rfl (lv_at hl 0 rfl) ?_
  refine lv_iload_n hx hb dX4_acknowledge_2 rfl (lv_at hl 1 rfl) ?_
  refine kV_i (r := nI 1) (w2 := wM g a s) (As := [.int (nI nd)]) (b := a 0) (rest := [.ref (a 0)]) (A1 := A) hfx (c_X4_isNode l hA (s := s) (hm) (j := nd) (by omega)) (cwV 1 hts gX4_acknowledge_X4_isNode rfl rfl rfl (by decide +kernel) ⟨by decide, by decide⟩) (va_recv hC.1 hP (ci := 4) rfl (wM_obj)) hC hP hS (fun _ h => h) rfl hl.1 rfl (Nat.le_of_ble_eq_true rfl) dX4_acknowledge_3 ⟨Nat.le_of_ble_eq_true rfl, Nat.le_of_ble_eq_true rfl⟩ (fun H locs hP hS _ _ => ?_)
  refine k_if_ne (tgt := 13) hx hb dX4_acknowledge_6 (by decide) (by omega) (fun c6 => ?_) (fun c6 => ?_)
  · skip
    refine lv_aload_n hx hb dX4_acknowledge_13 rfl (lv_at hl 0 rfl) ?_
    refine va_get (D := g.1) (C := RX4) (T := TX4) (N := 11) (ci := 4) hx hb hu4 (fun _ h => h) hown hC.1 hP _ (wM_obj) rfl 4 (by decide) (hts (.fieldLink RX4 13 "SplicedChainModel" "failed" "[Z") (by decide +kernel)) (fun _ h9 => h9) rfl dX4_acknowledge_14 ?_
    refine lv_iload_n hx hb dX4_acknowledge_17 rfl (lv_at hl 1 rfl) ?_
    refine k_zald hx hb hC hP _ (wM_failed) (j := nd) (by omega) (by omega) dX4_acknowledge_18 ?_
    refine k_if_eq (tgt := 26) hx hb dX4_acknowledge_19 (by decide) (by omega) (fun c19 => ?_) (fun c19 => ?_)
    · exfalso; omega
    · skip
      refine k_ic (x := 2) hx hb dX4_acknowledge_22 (by decide) ?_
      refine lv_goto (tgt := 39) hx hb dX4_acknowledge_23 (by decide) ?_
      refine kV_i (r := nI 1) (w2 := wM g a (w3 s 9 0 0 2)) (As := [.int (nI 2)]) (b := a 0) (rest := []) (A1 := A) hfx (c_X4_throwsIt l (n := n) hA (s := s) (c := 2) (by decide)) (cwV 1 hts gX4_acknowledge_X4_throwsIt rfl rfl rfl (by decide +kernel) ⟨by decide, by decide⟩) (va_recv hC.1 hP (ci := 4) rfl (wM_obj)) hC hP hS (fun _ h => h) rfl hl.1 rfl (Nat.le_of_ble_eq_true rfl) dX4_acknowledge_39 ⟨Nat.le_of_ble_eq_true rfl, Nat.le_of_ble_eq_true rfl⟩ (fun H locs hP hS _ _ => ?_)
      refine k_if_eq (tgt := 47) hx hb dX4_acknowledge_42 (by decide) (by omega) (fun c42 => ?_) (fun c42 => ?_)
      · exfalso; omega
      · skip
        refine k_ic (x := 0) hx hb dX4_acknowledge_45 (by decide) ?_
        exact k_iret hx hb hr hlk (by rfl) hP hS dX4_acknowledge_46
  · exfalso; omega
set_option maxHeartbeats 4000000 in
set_option maxRecDepth 100000 in
/-- acknowledge: nothing there -/
theorem c_X4_acknowledge_3 (l : Launch) {g : GG} {a : Nat → Nat} {n : Nat} {A : Nat → Prop} (hA : Ap A a 8) {s : CS} (hm : Mh n s) {p nd V : Nat} (hnd : nd < n) (hp : p < s 1 0 0) (hpe : s 0 0 p = nd) (hu : ∀ k, k < s 1 0 0 → k ≠ p → s 0 0 k ≠ nd) (hfl : s 2 0 nd = 0) (hla : p + 1 < s 1 0 0 → s 5 0 nd ≤ s 5 0 (s 0 0 (p + 1))) (hV : (if p + 1 < s 1 0 0 ∧ s 3 0 nd ≠ 0 then s 5 0 (s 0 0 (p + 1)) - s 5 0 nd else 0) = V) (h0 : V = 0) : Met l yX4_acknowledge wsX4_acknowledge ({ frames := 2, cells := 0, slots := 0, locals := 45 }) (pC g [.ref (a 0), .int (nI nd)] (wM g a s)) (qI g (nI 0) (wM g a (w3 s 9 0 0 3)) A) 0 0 A := by
  refine k_start (cc := cX4_acknowledge) (maxL := 2) (ret := (some .int)) (by decide) rfl (Nat.le_of_ble_eq_true rfl) ?_
  intro pr en s0 m args below meth cd hx hb hml hr hlk hts hown hin hC hP ls hl
  have hS : va_S A s0.heap s0.heap [] := va_S.rf
  have hfx : CallFix pr m cd cX4_acknowledge 2 s0 args wsX4_acknowledge RX4 := ⟨hx, hb, hml, hown, hts⟩
  have hu4 : ∀ w ∈ wsX40, w.before args s0 = true := fun w h => hts w ((by decide +kernel : ∀ w ∈ wsX40, w ∈ wsX4_acknowledge) w h)
  have hl : lv_has ls 2 [(0, .ref (a 0)), (1, .int (nI nd))] := hl
  have m0 := hm.1
  have m1 := hm.2.1
  refine lv_aload_n hx hb dX4_acknowledge_0 rfl (lv_at hl 0 rfl) ?_
  refine lv_aload_n hx hb dX4_acknowledge_1 rfl (lv_at hl 0 rfl) ?_
  refine lv_iload_n hx hb dX4_acknowledge_2 rfl (lv_at hl 1 rfl) ?_
  refine kV_i (r := nI 1) (w2 := wM g a s) (As := [.int (nI nd)]) (b := a 0) (rest := [.ref (a 0)]) (A1 := A) hfx (c_X4_isNode l hA (s := s) (hm) (j := nd) (by omega)) (cwV 1 hts gX4_acknowledge_X4_isNode rfl rfl rfl (by decide +kernel) ⟨by decide, by decide⟩) (va_recv hC.1 hP (ci := 4) rfl (wM_obj)) hC hP hS (fun _ h => h) rfl hl.1 rfl (Nat.le_of_ble_eq_true rfl) dX4_acknowledge_3 ⟨Nat.le_of_ble_eq_true rfl, Nat.le_of_ble_eq_true rfl⟩ (fun H locs hP hS _ _ => ?_)
  refine k_if_ne (tgt := 13) hx hb dX4_acknowledge_6 (by decide) (by omega) (fun c6 => ?_) (fun c6 => ?_)
  · skip
    refine lv_aload_n hx hb dX4_acknowledge_13 rfl (lv_at hl 0 rfl) ?_
    refine va_get (D := g.1) (C := RX4) (T := TX4) (N := 11) (ci := 4) hx hb hu4 (fun _ h => h) hown hC.1 hP _ (wM_obj) rfl 4 (by decide) (hts (.fieldLink RX4 13 "SplicedChainModel" "failed" "[Z") (by decide +kernel)) (fun _ h9 => h9) rfl dX4_acknowledge_14 ?_
    refine lv_iload_n hx hb dX4_acknowledge_17 rfl (lv_at hl 1 rfl) ?_
    refine k_zald hx hb hC hP _ (wM_failed) (j := nd) (by omega) (by omega) dX4_acknowledge_18 ?_
    refine k_if_eq (tgt := 26) hx hb dX4_acknowledge_19 (by decide) (by omega) (fun c19 => ?_) (fun c19 => ?_)
    · skip
      refine lv_aload_n hx hb dX4_acknowledge_26 rfl (lv_at hl 0 rfl) ?_
      refine lv_iload_n hx hb dX4_acknowledge_27 rfl (lv_at hl 1 rfl) ?_
      refine kV_i (r := nI V) (w2 := wM g a s) (As := [.int (nI nd)]) (b := a 0) (rest := [.ref (a 0)]) (A1 := A) hfx (c_X4_acksTo l hA (s := s) (hm) (nd := nd) (p := p) (V := V) hnd (hp) (hpe) (hu) (hla) (hV)) (cwV 1 hts gX4_acknowledge_X4_acksTo rfl rfl rfl (by decide +kernel) ⟨by decide, by decide⟩) (va_recv hC.1 hP (ci := 4) rfl (wM_obj)) hC hP hS (fun _ h => h) rfl hl.1 rfl (Nat.le_of_ble_eq_true rfl) dX4_acknowledge_28 ⟨Nat.le_of_ble_eq_true rfl, Nat.le_of_ble_eq_true rfl⟩ (fun H locs hP hS _ _ => ?_)
      refine k_if_ne (tgt := 38) hx hb dX4_acknowledge_31 (by decide) (by omega) (fun c31 => ?_) (fun c31 => ?_)
      · exfalso; omega
      · skip
        refine k_ic (x := 3) hx hb dX4_acknowledge_34 (by decide) ?_
        refine lv_goto (tgt := 39) hx hb dX4_acknowledge_35 (by decide) ?_
        refine kV_i (r := nI 1) (w2 := wM g a (w3 s 9 0 0 3)) (As := [.int (nI 3)]) (b := a 0) (rest := []) (A1 := A) hfx (c_X4_throwsIt l (n := n) hA (s := s) (c := 3) (by decide)) (cwV 1 hts gX4_acknowledge_X4_throwsIt rfl rfl rfl (by decide +kernel) ⟨by decide, by decide⟩) (va_recv hC.1 hP (ci := 4) rfl (wM_obj)) hC hP hS (fun _ h => h) rfl hl.1 rfl (Nat.le_of_ble_eq_true rfl) dX4_acknowledge_39 ⟨Nat.le_of_ble_eq_true rfl, Nat.le_of_ble_eq_true rfl⟩ (fun H locs hP hS _ _ => ?_)
        refine k_if_eq (tgt := 47) hx hb dX4_acknowledge_42 (by decide) (by omega) (fun c42 => ?_) (fun c42 => ?_)
        · exfalso; omega
        · skip
          refine k_ic (x := 0) hx hb dX4_acknowledge_45 (by decide) ?_
          exact k_iret hx hb hr hlk (by rfl) hP hS dX4_acknowledge_46
    · exfalso; omega
  · exfalso; omega
set_option maxHeartbeats 4000000 in
set_option maxRecDepth 100000 in
/-- deliver -/
theorem c_X4_deliver (l : Launch) {g : GG} {a : Nat → Nat} {n : Nat} {A : Nat → Prop} (hA : Ap A a 8) {s : CS} (hm : Mh n s) {p nd U : Nat} (hnd : nd < n) (hp : p < s 1 0 0) (hpe : s 0 0 p = nd) (hu : ∀ k, k < s 1 0 0 → k ≠ p → s 0 0 k ≠ nd) (hfl : s 2 0 nd = 0) (hle : 0 < p → s 4 0 nd ≤ s 4 0 (s 0 0 (p - 1))) (hU : (if 0 < p ∧ s 3 0 (s 0 0 (p - 1)) ≠ 0 then s 4 0 (s 0 0 (p - 1)) - s 4 0 nd else 0) = U) (h0 : 0 < U) : Met l yX4_deliver wsX4_deliver ({ frames := 2, cells := 0, slots := 0, locals := 45 }) (pC g [.ref (a 0), .int (nI nd)] (wM g a s)) (qI g (nI (s 4 0 nd + 1)) (wM g a (apM (w3 s 9 0 0 0) nd (s 6 0 (41 * s 0 0 (p - 1) + s 4 0 nd + 1)) (s 7 0 (41 * s 0 0 (p - 1) + s 4 0 nd + 1)))) A) 0 0 A := by
  refine k_start (cc := cX4_deliver) (maxL := 4) (ret := (some .int)) (by decide) rfl (Nat.le_of_ble_eq_true rfl) ?_
  intro pr en s0 m args below meth cd hx hb hml hr hlk hts hown hin hC hP ls hl
  have hS : va_S A s0.heap s0.heap [] := va_S.rf
  have hfx : CallFix pr m cd cX4_deliver 4 s0 args wsX4_deliver RX4 := ⟨hx, hb, hml, hown, hts⟩
  have hu4 : ∀ w ∈ wsX40, w.before args s0 = true := fun w h => hts w ((by decide +kernel : ∀ w ∈ wsX40, w ∈ wsX4_deliver) w h)
  have hl : lv_has ls 4 [(0, .ref (a 0)), (1, .int (nI nd))] := hl
  have m0 := hm.1
  have m1 := hm.2.1
  have f1 := hm.ch (p - 1) (by omega)
  have f2 := hm.nd _ f1
  have fU : 0 < p ∧ s 3 0 (s 0 0 (p - 1)) ≠ 0 := Decidable.byContradiction fun q => by rw [if_neg q] at hU; omega
  have fU2 : s 4 0 (s 0 0 (p - 1)) - s 4 0 nd = U := by rw [if_pos fU] at hU; exact hU
  refine lv_aload_n hx hb dX4_deliver_0 rfl (lv_at hl 0 rfl) ?_
  refine lv_aload_n hx hb dX4_deliver_1 rfl (lv_at hl 0 rfl) ?_
  refine lv_iload_n hx hb dX4_deliver_2 rfl (lv_at hl 1 rfl) ?_
  refine kV_i (r := nI 1) (w2 := wM g a s) (As := [.int (nI nd)]) (b := a 0) (rest := [.ref (a 0)]) (A1 := A) hfx (c_X4_isNode l hA (s := s) (hm) (j := nd) (by omega)) (cwV 1 hts gX4_deliver_X4_isNode rfl rfl rfl (by decide +kernel) ⟨by decide, by decide⟩) (va_recv hC.1 hP (ci := 4) rfl (wM_obj)) hC hP hS (fun _ h => h) rfl hl.1 rfl (Nat.le_of_ble_eq_true rfl) dX4_deliver_3 ⟨Nat.le_of_ble_eq_true rfl, Nat.le_of_ble_eq_true rfl⟩ (fun H locs hP hS _ _ => ?_)
  refine k_if_ne (tgt := 13) hx hb dX4_deliver_6 (by decide) (by omega) (fun c6 => ?_) (fun c6 => ?_)
  · skip
    refine lv_aload_n hx hb dX4_deliver_13 rfl (lv_at hl 0 rfl) ?_
    refine va_get (D := g.1) (C := RX4) (T := TX4) (N := 11) (ci := 4) hx hb hu4 (fun _ h => h) hown hC.1 hP _ (wM_obj) rfl 4 (by decide) (hts (.fieldLink RX4 13 "SplicedChainModel" "failed" "[Z") (by decide +kernel)) (fun _ h9 => h9) rfl dX4_deliver_14 ?_
    refine lv_iload_n hx hb dX4_deliver_17 rfl (lv_at hl 1 rfl) ?_
    refine k_zald hx hb hC hP _ (wM_failed) (j := nd) (by omega) (by omega) dX4_deliver_18 ?_
    refine k_if_eq (tgt := 26) hx hb dX4_deliver_19 (by decide) (by omega) (fun c19 => ?_) (fun c19 => ?_)
    · skip
      refine lv_aload_n hx hb dX4_deliver_26 rfl (lv_at hl 0 rfl) ?_
      refine lv_iload_n hx hb dX4_deliver_27 rfl (lv_at hl 1 rfl) ?_
      refine kV_i (r := nI U) (w2 := wM g a s) (As := [.int (nI nd)]) (b := a 0) (rest := [.ref (a 0)]) (A1 := A) hfx (c_X4_updatesTo l hA (s := s) (hm) (nd := nd) (p := p) (U := U) hnd (hp) (hpe) (hu) (hle) (hU)) (cwV 1 hts gX4_deliver_X4_updatesTo rfl rfl rfl (by decide +kernel) ⟨by decide, by decide⟩) (va_recv hC.1 hP (ci := 4) rfl (wM_obj)) hC hP hS (fun _ h => h) rfl hl.1 rfl (Nat.le_of_ble_eq_true rfl) dX4_deliver_28 ⟨Nat.le_of_ble_eq_true rfl, Nat.le_of_ble_eq_true rfl⟩ (fun H locs hP hS _ _ => ?_)
      have fU3 : U ≤ 40 := by omega
      refine k_if_ne (tgt := 38) hx hb dX4_deliver_31 (by decide) (by omega) (fun c31 => ?_) (fun c31 => ?_)
      · skip
        refine k_ic (x := 0) hx hb dX4_deliver_38 (by decide) ?_
        refine kV_i (r := nI 0) (w2 := wM g a (w3 s 9 0 0 0)) (As := [.int (nI 0)]) (b := a 0) (rest := []) (A1 := A) hfx (c_X4_throwsIt_0 l (n := n) hA (s := s)) (cwV 1 hts gX4_deliver_X4_throwsIt rfl rfl rfl (by decide +kernel) ⟨by decide, by decide⟩) (va_recv hC.1 hP (ci := 4) rfl (wM_obj)) hC hP hS (fun _ h => h) rfl hl.1 rfl (Nat.le_of_ble_eq_true rfl) dX4_deliver_39 ⟨Nat.le_of_ble_eq_true rfl, Nat.le_of_ble_eq_true rfl⟩ (fun H locs hP hS _ _ => ?_)
        refine k_if_eq (tgt := 47) hx hb dX4_deliver_42 (by decide) (by omega) (fun c42 => ?_) (fun c42 => ?_)
        · skip
          refine lv_aload_n hx hb dX4_deliver_47 rfl (lv_at hl 0 rfl) ?_
          refine lv_iload_n hx hb dX4_deliver_48 rfl (lv_at hl 1 rfl) ?_
          refine kV_i (r := nI p) (w2 := wM g a (w3 s 9 0 0 0)) (As := [.int (nI nd)]) (b := a 0) (rest := []) (A1 := A) hfx (c_X4_placeOf l hA (s := (w3 s 9 0 0 0)) (hm.m9) (nd := nd) (p := p) (by omega) (by simp [w3]; exact hp) (by simp [w3]; exact hpe) (fun k hk hne => by simp [w3] at hk ⊢; exact hu k hk hne)) (cwV 1 hts gX4_deliver_X4_placeOf rfl rfl rfl (by decide +kernel) ⟨by decide, by decide⟩) (va_recv hC.1 hP (ci := 4) rfl (wM_obj)) hC hP hS (fun _ h => h) rfl hl.1 rfl (Nat.le_of_ble_eq_true rfl) dX4_deliver_49 ⟨Nat.le_of_ble_eq_true rfl, Nat.le_of_ble_eq_true rfl⟩ (fun H locs hP hS _ _ => ?_)
          refine lv_istore_n (lv' := [(2, .int (nI p)), (0, .ref (a 0)), (1, .int (nI nd))]) hx hb dX4_deliver_52 rfl hl (by decide) rfl (fun ls hl => ?_)
          refine k_bi (x := 41) hx hb dX4_deliver_53 (by decide) ?_
          refine lv_aload_n hx hb dX4_deliver_55 rfl (lv_at hl 1 rfl) ?_
          refine va_get (D := g.1) (C := RX4) (T := TX4) (N := 11) (ci := 4) hx hb hu4 (fun _ h => h) hown hC.1 hP _ (wM_obj) rfl 3 (by decide) (hts (.fieldLink RX4 7 "SplicedChainModel" "chain" "[I") (by decide +kernel)) (fun _ h9 => h9) rfl dX4_deliver_56 ?_
          refine lv_iload_n hx hb dX4_deliver_59 rfl (lv_at hl 0 rfl) ?_
          refine k_ic (x := 1) hx hb dX4_deliver_60 (by decide) ?_
          refine k_isub (x := p) (y := 1) hx hb (by omega) dX4_deliver_61 ?_
          refine k_iald hx hb hC hP _ (wM_chain) (j := p - 1) (by omega) (by omega) dX4_deliver_62 ?_
          refine k_as (x := s 0 0 (p - 1)) (by simp [w3]) ?_
          refine k_imul (x := 41) (y := s 0 0 (p - 1)) hx hb dX4_deliver_63 ?_
          refine lv_aload_n hx hb dX4_deliver_64 rfl (lv_at hl 1 rfl) ?_
          refine va_get (D := g.1) (C := RX4) (T := TX4) (N := 11) (ci := 4) hx hb hu4 (fun _ h => h) hown hC.1 hP _ (wM_obj) rfl 6 (by decide) (hts (.fieldLink RX4 20 "SplicedChainModel" "history" "[I") (by decide +kernel)) (fun _ h9 => h9) rfl dX4_deliver_65 ?_
          refine lv_iload_n hx hb dX4_deliver_68 rfl (lv_at hl 2 rfl) ?_
          refine k_iald hx hb hC hP _ (wM_history) (j := nd) (by omega) (by omega) dX4_deliver_69 ?_
          refine k_as (x := s 4 0 nd) (by simp [w3]) ?_
          refine k_iadd (x := 41 * (s 0 0 (p - 1))) (y := s 4 0 nd) hx hb dX4_deliver_70 ?_
          refine k_ic (x := 1) hx hb dX4_deliver_71 (by decide) ?_
          refine k_iadd (x := (41 * (s 0 0 (p - 1))) + (s 4 0 nd)) (y := 1) hx hb dX4_deliver_72 ?_
          refine lv_istore_n (lv' := [(3, .int (nI (((41 * (s 0 0 (p - 1))) + (s 4 0 nd)) + 1))), (2, .int (nI p)), (0, .ref (a 0)), (1, .int (nI nd))]) hx hb dX4_deliver_73 rfl hl (by decide) rfl (fun ls hl => ?_)
          refine lv_aload_n hx hb dX4_deliver_74 rfl (lv_at hl 2 rfl) ?_
          refine lv_iload_n hx hb dX4_deliver_75 rfl (lv_at hl 3 rfl) ?_
          refine lv_aload_n hx hb dX4_deliver_76 rfl (lv_at hl 2 rfl) ?_
          refine va_get (D := g.1) (C := RX4) (T := TX4) (N := 11) (ci := 4) hx hb hu4 (fun _ h => h) hown hC.1 hP _ (wM_obj) rfl 8 (by decide) (hts (.fieldLink RX4 26 "SplicedChainModel" "keys" "[I") (by decide +kernel)) (fun _ h9 => h9) rfl dX4_deliver_77 ?_
          refine lv_iload_n hx hb dX4_deliver_80 rfl (lv_at hl 0 rfl) ?_
          refine k_iald hx hb hC hP _ (wM_keys) (j := ((41 * (s 0 0 (p - 1))) + (s 4 0 nd)) + 1) (by omega) (by omega) dX4_deliver_81 ?_
          refine k_as (x := s 6 0 (((41 * (s 0 0 (p - 1))) + (s 4 0 nd)) + 1)) (by simp [w3]) ?_
          refine lv_aload_n hx hb dX4_deliver_82 rfl (lv_at hl 2 rfl) ?_
          refine va_get (D := g.1) (C := RX4) (T := TX4) (N := 11) (ci := 4) hx hb hu4 (fun _ h => h) hown hC.1 hP _ (wM_obj) rfl 9 (by decide) (hts (.fieldLink RX4 29 "SplicedChainModel" "values" "[I") (by decide +kernel)) (fun _ h9 => h9) rfl dX4_deliver_83 ?_
          refine lv_iload_n hx hb dX4_deliver_86 rfl (lv_at hl 0 rfl) ?_
          refine k_iald hx hb hC hP _ (wM_values) (j := ((41 * (s 0 0 (p - 1))) + (s 4 0 nd)) + 1) (by omega) (by omega) dX4_deliver_87 ?_
          refine k_as (x := s 7 0 (((41 * (s 0 0 (p - 1))) + (s 4 0 nd)) + 1)) (by simp [w3]) ?_
          refine kV_v (w2 := wM g a (apM (w3 s 9 0 0 0) nd (s 6 0 (((41 * (s 0 0 (p - 1))) + (s 4 0 nd)) + 1)) (s 7 0 (((41 * (s 0 0 (p - 1))) + (s 4 0 nd)) + 1)))) (As := [.int (nI nd), .int (nI (s 6 0 (((41 * (s 0 0 (p - 1))) + (s 4 0 nd)) + 1))), .int (nI (s 7 0 (((41 * (s 0 0 (p - 1))) + (s 4 0 nd)) + 1)))]) (b := a 0) (rest := []) (A1 := A) hfx (c_X4_apply l hA (s := (w3 s 9 0 0 0)) (hm.m9) (nd := nd) (k := s 6 0 (((41 * (s 0 0 (p - 1))) + (s 4 0 nd)) + 1)) (v := s 7 0 (((41 * (s 0 0 (p - 1))) + (s 4 0 nd)) + 1)) (by omega) (by simp [w3]; omega)) (cwV 3 hts gX4_deliver_X4_apply rfl rfl rfl (by decide +kernel) ⟨by decide, by decide⟩) (va_recv hC.1 hP (ci := 4) rfl (wM_obj)) hC hP hS (fun _ h => h) rfl hl.1 rfl (Nat.le_of_ble_eq_true rfl) dX4_deliver_88 ⟨Nat.le_of_ble_eq_true rfl, Nat.le_of_ble_eq_true rfl⟩ (fun H locs hP hS _ _ => ?_)
          refine lv_aload_n hx hb dX4_deliver_91 rfl (lv_at hl 2 rfl) ?_
          refine va_get (D := g.1) (C := RX4) (T := TX4) (N := 11) (ci := 4) hx hb hu4 (fun _ h => h) hown hC.1 hP _ (wM_obj) rfl 6 (by decide) (hts (.fieldLink RX4 20 "SplicedChainModel" "history" "[I") (by decide +kernel)) (fun _ h9 => h9) rfl dX4_deliver_92 ?_
          refine lv_iload_n hx hb dX4_deliver_95 rfl (lv_at hl 3 rfl) ?_
          refine k_iald hx hb hC hP _ (wM_history) (j := nd) (by omega) (by omega) dX4_deliver_96 ?_
          refine k_as (x := s 4 0 nd + 1) (by rw [apM_h]; simp [w3]) ?_
          exact k_iret hx hb hr hlk (by rfl) hP hS dX4_deliver_97
        · exfalso; omega
      · exfalso; omega
    · exfalso; omega
  · exfalso; omega
set_option maxHeartbeats 4000000 in
set_option maxRecDepth 100000 in
/-- acknowledge -/
theorem c_X4_acknowledge (l : Launch) {g : GG} {a : Nat → Nat} {n : Nat} {A : Nat → Prop} (hA : Ap A a 8) {s : CS} (hm : Mh n s) {p nd V : Nat} (hnd : nd < n) (hp : p < s 1 0 0) (hpe : s 0 0 p = nd) (hu : ∀ k, k < s 1 0 0 → k ≠ p → s 0 0 k ≠ nd) (hfl : s 2 0 nd = 0) (hla : p + 1 < s 1 0 0 → s 5 0 nd ≤ s 5 0 (s 0 0 (p + 1))) (hV : (if p + 1 < s 1 0 0 ∧ s 3 0 nd ≠ 0 then s 5 0 (s 0 0 (p + 1)) - s 5 0 nd else 0) = V) (h0 : 0 < V) : Met l yX4_acknowledge wsX4_acknowledge ({ frames := 2, cells := 0, slots := 0, locals := 45 }) (pC g [.ref (a 0), .int (nI nd)] (wM g a s)) (qI g (nI (s 5 0 nd + 1)) (wM g a (w3 (w3 s 9 0 0 0) 5 0 nd (s 5 0 nd + 1))) A) 0 0 A := by
  refine k_start (cc := cX4_acknowledge) (maxL := 2) (ret := (some .int)) (by decide) rfl (Nat.le_of_ble_eq_true rfl) ?_
  intro pr en s0 m args below meth cd hx hb hml hr hlk hts hown hin hC hP ls hl
  have hS : va_S A s0.heap s0.heap [] := va_S.rf
  have hfx : CallFix pr m cd cX4_acknowledge 2 s0 args wsX4_acknowledge RX4 := ⟨hx, hb, hml, hown, hts⟩
  have hu4 : ∀ w ∈ wsX40, w.before args s0 = true := fun w h => hts w ((by decide +kernel : ∀ w ∈ wsX40, w ∈ wsX4_acknowledge) w h)
  have hl : lv_has ls 2 [(0, .ref (a 0)), (1, .int (nI nd))] := hl
  have m0 := hm.1
  have m1 := hm.2.1
  have fV : p + 1 < s 1 0 0 ∧ s 3 0 nd ≠ 0 := Decidable.byContradiction fun q => by rw [if_neg q] at hV; omega
  have fV2 : s 5 0 (s 0 0 (p + 1)) - s 5 0 nd = V := by rw [if_pos fV] at hV; exact hV
  have f1 := hm.ch (p + 1) (by omega)
  have f2 := hm.nd _ f1
  refine lv_aload_n hx hb dX4_acknowledge_0 rfl (lv_at hl 0 rfl) ?_
  refine lv_aload_n hx hb dX4_acknowledge_1 rfl (lv_at hl 0 rfl) ?_
  refine lv_iload_n hx hb dX4_acknowledge_2 rfl (lv_at hl 1 rfl) ?_
  refine kV_i (r := nI 1) (w2 := wM g a s) (As := [.int (nI nd)]) (b := a 0) (rest := [.ref (a 0)]) (A1 := A) hfx (c_X4_isNode l hA (s := s) (hm) (j := nd) (by omega)) (cwV 1 hts gX4_acknowledge_X4_isNode rfl rfl rfl (by decide +kernel) ⟨by decide, by decide⟩) (va_recv hC.1 hP (ci := 4) rfl (wM_obj)) hC hP hS (fun _ h => h) rfl hl.1 rfl (Nat.le_of_ble_eq_true rfl) dX4_acknowledge_3 ⟨Nat.le_of_ble_eq_true rfl, Nat.le_of_ble_eq_true rfl⟩ (fun H locs hP hS _ _ => ?_)
  refine k_if_ne (tgt := 13) hx hb dX4_acknowledge_6 (by decide) (by omega) (fun c6 => ?_) (fun c6 => ?_)
  · skip
    refine lv_aload_n hx hb dX4_acknowledge_13 rfl (lv_at hl 0 rfl) ?_
    refine va_get (D := g.1) (C := RX4) (T := TX4) (N := 11) (ci := 4) hx hb hu4 (fun _ h => h) hown hC.1 hP _ (wM_obj) rfl 4 (by decide) (hts (.fieldLink RX4 13 "SplicedChainModel" "failed" "[Z") (by decide +kernel)) (fun _ h9 => h9) rfl dX4_acknowledge_14 ?_
    refine lv_iload_n hx hb dX4_acknowledge_17 rfl (lv_at hl 1 rfl) ?_
    refine k_zald hx hb hC hP _ (wM_failed) (j := nd) (by omega) (by omega) dX4_acknowledge_18 ?_
    refine k_if_eq (tgt := 26) hx hb dX4_acknowledge_19 (by decide) (by omega) (fun c19 => ?_) (fun c19 => ?_)
    · skip
      refine lv_aload_n hx hb dX4_acknowledge_26 rfl (lv_at hl 0 rfl) ?_
      refine lv_iload_n hx hb dX4_acknowledge_27 rfl (lv_at hl 1 rfl) ?_
      refine kV_i (r := nI V) (w2 := wM g a s) (As := [.int (nI nd)]) (b := a 0) (rest := [.ref (a 0)]) (A1 := A) hfx (c_X4_acksTo l hA (s := s) (hm) (nd := nd) (p := p) (V := V) hnd (hp) (hpe) (hu) (hla) (hV)) (cwV 1 hts gX4_acknowledge_X4_acksTo rfl rfl rfl (by decide +kernel) ⟨by decide, by decide⟩) (va_recv hC.1 hP (ci := 4) rfl (wM_obj)) hC hP hS (fun _ h => h) rfl hl.1 rfl (Nat.le_of_ble_eq_true rfl) dX4_acknowledge_28 ⟨Nat.le_of_ble_eq_true rfl, Nat.le_of_ble_eq_true rfl⟩ (fun H locs hP hS _ _ => ?_)
      refine k_if_ne (tgt := 38) hx hb dX4_acknowledge_31 (by decide) (by omega) (fun c31 => ?_) (fun c31 => ?_)
      · skip
        refine k_ic (x := 0) hx hb dX4_acknowledge_38 (by decide) ?_
        refine kV_i (r := nI 0) (w2 := wM g a (w3 s 9 0 0 0)) (As := [.int (nI 0)]) (b := a 0) (rest := []) (A1 := A) hfx (c_X4_throwsIt_0 l (n := n) hA (s := s)) (cwV 1 hts gX4_acknowledge_X4_throwsIt rfl rfl rfl (by decide +kernel) ⟨by decide, by decide⟩) (va_recv hC.1 hP (ci := 4) rfl (wM_obj)) hC hP hS (fun _ h => h) rfl hl.1 rfl (Nat.le_of_ble_eq_true rfl) dX4_acknowledge_39 ⟨Nat.le_of_ble_eq_true rfl, Nat.le_of_ble_eq_true rfl⟩ (fun H locs hP hS _ _ => ?_)
        refine k_if_eq (tgt := 47) hx hb dX4_acknowledge_42 (by decide) (by omega) (fun c42 => ?_) (fun c42 => ?_)
        · skip
          refine lv_aload_n hx hb dX4_acknowledge_47 rfl (lv_at hl 0 rfl) ?_
          refine va_get (D := g.1) (C := RX4) (T := TX4) (N := 11) (ci := 4) hx hb hu4 (fun _ h => h) hown hC.1 hP _ (wM_obj) rfl 7 (by decide) (hts (.fieldLink RX4 23 "SplicedChainModel" "acked" "[I") (by decide +kernel)) (fun _ h9 => h9) rfl dX4_acknowledge_48 ?_
          refine lv_iload_n hx hb dX4_acknowledge_51 rfl (lv_at hl 1 rfl) ?_
          refine lv_dup2_11 hx hb dX4_acknowledge_52 rfl rfl ?_
          refine k_iald hx hb hC hP _ (wM_acked) (j := nd) (by omega) (by omega) dX4_acknowledge_53 ?_
          refine k_as (x := s 5 0 nd) (by simp [w3]) ?_
          refine k_ic (x := 1) hx hb dX4_acknowledge_54 (by decide) ?_
          refine k_iadd (x := s 5 0 nd) (y := 1) hx hb dX4_acknowledge_55 ?_
          refine k_iast hx hb hC hP hA.M hS _ (wM_acked) (j := nd) (by omega) (by omega) dX4_acknowledge_56 wpM_acked (fun H locs hP hS => ?_)
          refine lv_aload_n hx hb dX4_acknowledge_57 rfl (lv_at hl 0 rfl) ?_
          refine va_get (D := g.1) (C := RX4) (T := TX4) (N := 11) (ci := 4) hx hb hu4 (fun _ h => h) hown hC.1 hP _ (wM_obj) rfl 7 (by decide) (hts (.fieldLink RX4 23 "SplicedChainModel" "acked" "[I") (by decide +kernel)) (fun _ h9 => h9) rfl dX4_acknowledge_58 ?_
          refine lv_iload_n hx hb dX4_acknowledge_61 rfl (lv_at hl 1 rfl) ?_
          refine k_iald hx hb hC hP _ (wM_acked) (j := nd) (by omega) (by omega) dX4_acknowledge_62 ?_
          refine k_as (x := (s 5 0 nd) + 1) (by simp [w3]) ?_
          exact k_iret hx hb hr hlk (by rfl) hP hS dX4_acknowledge_63
        · exfalso; omega
      · exfalso; omega
    · exfalso; omega
  · exfalso; omega
def cntM (s : CS) : Nat → Nat
  | 0 => 0
  | k + 1 => cntM s k + (if s 2 0 k = 0 then 1 else 0)
theorem cntM_le (s : CS) : ∀ k, cntM s k ≤ k
  | 0 => Nat.le_refl 0
  | k + 1 => by have := cntM_le s k; simp only [cntM]; split <;> omega
def failM (s : CS) (nd p : Nat) : CS := if 0 < p then w3 (w3 (w3 (w3 s 9 0 0 0) 2 0 nd 1) 3 0 nd 0) 3 0 (s 0 0 (p - 1)) 0 else w3 (w3 (w3 s 9 0 0 0) 2 0 nd 1) 3 0 nd 0
set_option maxHeartbeats 4000000 in
set_option maxRecDepth 100000 in
/-- fail: no node -/
theorem c_X4_fail_1 (l : Launch) {g : GG} {a : Nat → Nat} {n : Nat} {A : Nat → Prop} (hA : Ap A a 8) {s : CS} (hm : Mh n s) {x : Int32} (hbad : x < 0 ∨ nI n ≤ x) : Met l yX4_fail wsX4_fail ({ frames := 1, cells := 0, slots := 0, locals := 23 }) (pC g [.ref (a 0), .int (x)] (wM g a s)) (qI g (nI 0) (wM g a (w3 s 9 0 0 1)) A) 0 0 A := by
  refine k_start (cc := cX4_fail) (maxL := 4) (ret := (some .boolean)) (by decide) rfl (Nat.le_of_ble_eq_true rfl) ?_
  intro pr en s0 m args below meth cd hx hb hml hr hlk hts hown hin hC hP ls hl
  have hS : va_S A s0.heap s0.heap [] := va_S.rf
  have hfx : CallFix pr m cd cX4_fail 4 s0 args wsX4_fail RX4 := ⟨hx, hb, hml, hown, hts⟩
  have hu4 : ∀ w ∈ wsX40, w.before args s0 = true := fun w h => hts w ((by decide +kernel : ∀ w ∈ wsX40, w ∈ wsX4_fail) w h)
  have hl : lv_has ls 4 [(0, .ref (a 0)), (1, .int (x))] := hl
  have m0 := hm.1
  have m1 := hm.2.1
  refine lv_aload_n hx hb dX4_fail_0 rfl (lv_at hl 0 rfl) ?_
  refine lv_aload_n hx hb dX4_fail_1 rfl (lv_at hl 0 rfl) ?_
  refine lv_iload_n hx hb dX4_fail_2 rfl (lv_at hl 1 rfl) ?_
  refine kV_i (r := nI 0) (w2 := wM g a s) (As := [.int (x)]) (b := a 0) (rest := [.ref (a 0)]) (A1 := A) hfx (c_X4_isNode_no l hA (s := s) (hm) (x := x) hbad) (cwV 1 hts gX4_fail_X4_isNode rfl rfl rfl (by decide +kernel) ⟨by decide, by decide⟩) (va_recv hC.1 hP (ci := 4) rfl (wM_obj)) hC hP hS (fun _ h => h) rfl hl.1 rfl (Nat.le_of_ble_eq_true rfl) dX4_fail_3 ⟨Nat.le_of_ble_eq_true rfl, Nat.le_of_ble_eq_true rfl⟩ (fun H locs hP hS _ _ => ?_)
  refine k_if_eq (tgt := 13) hx hb dX4_fail_6 (by decide) (by omega) (fun c6 => ?_) (fun c6 => ?_)
  · skip
    refine k_ic (x := 1) hx hb dX4_fail_13 (by decide) ?_
    refine kV_i (r := nI 1) (w2 := wM g a (w3 s 9 0 0 1)) (As := [.int (nI 1)]) (b := a 0) (rest := []) (A1 := A) hfx (c_X4_throwsIt l (n := n) hA (s := s) (c := 1) (by decide)) (cwV 1 hts gX4_fail_X4_throwsIt rfl rfl rfl (by decide +kernel) ⟨by decide, by decide⟩) (va_recv hC.1 hP (ci := 4) rfl (wM_obj)) hC hP hS (fun _ h => h) rfl hl.1 rfl (Nat.le_of_ble_eq_true rfl) dX4_fail_14 ⟨Nat.le_of_ble_eq_true rfl, Nat.le_of_ble_eq_true rfl⟩ (fun H locs hP hS _ _ => ?_)
    refine k_if_eq (tgt := 22) hx hb dX4_fail_17 (by decide) (by omega) (fun c17 => ?_) (fun c17 => ?_)
    · exfalso; omega
    · skip
      refine k_ic (x := 0) hx hb dX4_fail_20 (by decide) ?_
      exact k_zret hx hb hr hlk (by rfl) (by decide) hP hS dX4_fail_21
  · exfalso; omega
set_option maxHeartbeats 4000000 in
set_option maxRecDepth 100000 in
/-- fail -/
theorem c_X4_fail_no (l : Launch) {g : GG} {a : Nat → Nat} {n : Nat} {A : Nat → Prop} (hA : Ap A a 8) {s : CS} (hm : Mh n s) {nd : Nat} (hnd : nd < n) (hno : s 2 0 nd ≠ 0 ∨ cntM s n = 1) : Met l yX4_fail wsX4_fail ({ frames := 1, cells := 0, slots := 0, locals := 23 }) (pC g [.ref (a 0), .int (nI nd)] (wM g a s)) (qI g (nI 0) (wM g a (w3 s 9 0 0 0)) A) 0 0 A := by
  refine k_start (cc := cX4_fail) (maxL := 4) (ret := (some .boolean)) (by decide) rfl (Nat.le_of_ble_eq_true rfl) ?_
  intro pr en s0 m args below meth cd hx hb hml hr hlk hts hown hin hC hP ls hl
  have hS : va_S A s0.heap s0.heap [] := va_S.rf
  have hfx : CallFix pr m cd cX4_fail 4 s0 args wsX4_fail RX4 := ⟨hx, hb, hml, hown, hts⟩
  have hu4 : ∀ w ∈ wsX40, w.before args s0 = true := fun w h => hts w ((by decide +kernel : ∀ w ∈ wsX40, w ∈ wsX4_fail) w h)
  have hl : lv_has ls 4 [(0, .ref (a 0)), (1, .int (nI nd))] := hl
  have m0 := hm.1
  have m1 := hm.2.1
  have f1 := hm.nd nd (by omega)
  have loop : ∀ (d k : Nat), n + 1 ≤ k + d → k ≤ n → ∀ (H : Heap) (locs : List Loc), va_P g.1 vwCl (wM g a (w3 s 9 0 0 0)) H → va_S A s0.heap H locs → ∀ ls : Array Slot, lv_has ls 4 [(3, .int (nI k)), (2, .int (nI (cntM s k))), (0, .ref (a 0)), (1, .int (nI nd))] → W pr l en ({ frames := 1, cells := 0, slots := 0, locals := 23 }) s0 m args below meth cd H locs 0 0 (MQ below (qI g (nI 0) (wM g a (w3 s 9 0 0 0)) A) args s0 0 0 A) (F0 m 26 ls []) := by
    intro d
    induction d with
    | zero => intro k h1 h2; exact absurd h1 (by omega)
    | succ d ih =>
      intro k h1 h2 H locs hP hS ls hl
      have f2 := cntM_le s k
      refine lv_iload_n hx hb dX4_fail_26 rfl (lv_at hl 0 rfl) ?_
      refine lv_aload_n hx hb dX4_fail_27 rfl (lv_at hl 2 rfl) ?_
      refine va_get (D := g.1) (C := RX4) (T := TX4) (N := 11) (ci := 4) hx hb hu4 (fun _ h => h) hown hC.1 hP _ (wM_obj) rfl 0 (by decide) (hts (.fieldLink RX4 32 "SplicedChainModel" "nodes" "I") (by decide +kernel)) (fun _ h9 => h9) rfl dX4_fail_28 ?_
      refine k_as (x := s 10 0 0) (by simp [w3]) ?_
      refine k_icmp_ge (tgt := 57) hx hb dX4_fail_31 (by decide) (by omega) (by omega) (fun c31 => ?_) (fun c31 => ?_)
      · skip
        have ek : k = n := by omega
        refine lv_aload_n hx hb dX4_fail_57 rfl (lv_at hl 2 rfl) ?_
        refine va_get (D := g.1) (C := RX4) (T := TX4) (N := 11) (ci := 4) hx hb hu4 (fun _ h => h) hown hC.1 hP _ (wM_obj) rfl 4 (by decide) (hts (.fieldLink RX4 13 "SplicedChainModel" "failed" "[Z") (by decide +kernel)) (fun _ h9 => h9) rfl dX4_fail_58 ?_
        refine lv_iload_n hx hb dX4_fail_61 rfl (lv_at hl 3 rfl) ?_
        refine k_zald hx hb hC hP _ (wM_failed) (j := nd) (by omega) (by omega) dX4_fail_62 ?_
        refine k_as (x := s 2 0 nd) (by simp [w3]) ?_
        refine k_if_ne (tgt := 71) hx hb dX4_fail_63 (by decide) (by omega) (fun c63 => ?_) (fun c63 => ?_)
        · skip
          refine k_ic (x := 0) hx hb dX4_fail_71 (by decide) ?_
          exact k_zret hx hb hr hlk (by rfl) (by decide) hP hS dX4_fail_72
        · skip
          refine lv_iload_n hx hb dX4_fail_66 rfl (lv_at hl 1 rfl) ?_
          refine k_ic (x := 1) hx hb dX4_fail_67 (by decide) ?_
          refine k_icmp_ne (tgt := 73) hx hb dX4_fail_68 (by decide) (by omega) (by omega) (fun c68 => ?_) (fun c68 => ?_)
          · exfalso; rw [← ek] at hno; omega
          · skip
            refine k_ic (x := 0) hx hb dX4_fail_71 (by decide) ?_
            exact k_zret hx hb hr hlk (by rfl) (by decide) hP hS dX4_fail_72
      · skip
        have f3 := hm.nd k (by omega)
        refine lv_aload_n hx hb dX4_fail_34 rfl (lv_at hl 2 rfl) ?_
        refine va_get (D := g.1) (C := RX4) (T := TX4) (N := 11) (ci := 4) hx hb hu4 (fun _ h => h) hown hC.1 hP _ (wM_obj) rfl 4 (by decide) (hts (.fieldLink RX4 13 "SplicedChainModel" "failed" "[Z") (by decide +kernel)) (fun _ h9 => h9) rfl dX4_fail_35 ?_
        refine lv_iload_n hx hb dX4_fail_38 rfl (lv_at hl 0 rfl) ?_
        refine k_zald hx hb hC hP _ (wM_failed) (j := k) (by omega) (by omega) dX4_fail_39 ?_
        refine k_as (x := s 2 0 k) (by simp [w3]) ?_
        refine k_if_eq (tgt := 47) hx hb dX4_fail_40 (by decide) (by omega) (fun c40 => ?_) (fun c40 => ?_)
        · skip
          refine lv_iload_n hx hb dX4_fail_47 rfl (lv_at hl 1 rfl) ?_
          refine k_ic (x := 1) hx hb dX4_fail_48 (by decide) ?_
          refine k_iadd (x := cntM s k) (y := 1) hx hb dX4_fail_49 ?_
          refine lv_istore_n (lv' := [(2, .int (nI ((cntM s k) + 1))), (3, .int (nI k)), (0, .ref (a 0)), (1, .int (nI nd))]) hx hb dX4_fail_50 rfl hl (by decide) rfl (fun ls hl => ?_)
          refine lv_iinc (v := nI (k + 1)) (lv' := [(3, .int (nI (k + 1))), (2, .int (nI ((cntM s k) + 1))), (0, .ref (a 0)), (1, .int (nI nd))]) hx hb dX4_fail_51 hl (k := 1) rfl (nI_add _ _) (by decide) rfl (fun ls hl => ?_)
          refine lv_goto (tgt := 26) hx hb dX4_fail_54 (by decide) ?_
          exact ih (k + 1) (by omega) (by omega) H locs hP hS ls (by rw [show cntM s (k + 1) = (cntM s k) + 1 by simp [cntM, c40]]; exact lv_sub hl [0, 1, 2, 3] rfl)
        · skip
          refine lv_iload_n hx hb dX4_fail_43 rfl (lv_at hl 1 rfl) ?_
          refine lv_goto (tgt := 50) hx hb dX4_fail_44 (by decide) ?_
          refine lv_istore_n (lv' := [(2, .int (nI (cntM s k))), (3, .int (nI k)), (0, .ref (a 0)), (1, .int (nI nd))]) hx hb dX4_fail_50 rfl hl (by decide) rfl (fun ls hl => ?_)
          refine lv_iinc (v := nI (k + 1)) (lv' := [(3, .int (nI (k + 1))), (2, .int (nI (cntM s k))), (0, .ref (a 0)), (1, .int (nI nd))]) hx hb dX4_fail_51 hl (k := 1) rfl (nI_add _ _) (by decide) rfl (fun ls hl => ?_)
          refine lv_goto (tgt := 26) hx hb dX4_fail_54 (by decide) ?_
          exact ih (k + 1) (by omega) (by omega) H locs hP hS ls (by rw [show cntM s (k + 1) = cntM s k by simp [cntM, c40]]; exact lv_sub hl [0, 1, 2, 3] rfl)
  refine lv_aload_n hx hb dX4_fail_0 rfl (lv_at hl 0 rfl) ?_
  refine lv_aload_n hx hb dX4_fail_1 rfl (lv_at hl 0 rfl) ?_
  refine lv_iload_n hx hb dX4_fail_2 rfl (lv_at hl 1 rfl) ?_
  refine kV_i (r := nI 1) (w2 := wM g a s) (As := [.int (nI nd)]) (b := a 0) (rest := [.ref (a 0)]) (A1 := A) hfx (c_X4_isNode l hA (s := s) (hm) (j := nd) (by omega)) (cwV 1 hts gX4_fail_X4_isNode rfl rfl rfl (by decide +kernel) ⟨by decide, by decide⟩) (va_recv hC.1 hP (ci := 4) rfl (wM_obj)) hC hP hS (fun _ h => h) rfl hl.1 rfl (Nat.le_of_ble_eq_true rfl) dX4_fail_3 ⟨Nat.le_of_ble_eq_true rfl, Nat.le_of_ble_eq_true rfl⟩ (fun H locs hP hS _ _ => ?_)
  refine k_if_eq (tgt := 13) hx hb dX4_fail_6 (by decide) (by omega) (fun c6 => ?_) (fun c6 => ?_)
  · exfalso; omega
  · skip
    refine k_ic (x := 0) hx hb dX4_fail_9 (by decide) ?_
    refine lv_goto (tgt := 14) hx hb dX4_fail_10 (by decide) ?_
    refine kV_i (r := nI 0) (w2 := wM g a (w3 s 9 0 0 0)) (As := [.int (nI 0)]) (b := a 0) (rest := []) (A1 := A) hfx (c_X4_throwsIt_0 l (n := n) hA (s := s)) (cwV 1 hts gX4_fail_X4_throwsIt rfl rfl rfl (by decide +kernel) ⟨by decide, by decide⟩) (va_recv hC.1 hP (ci := 4) rfl (wM_obj)) hC hP hS (fun _ h => h) rfl hl.1 rfl (Nat.le_of_ble_eq_true rfl) dX4_fail_14 ⟨Nat.le_of_ble_eq_true rfl, Nat.le_of_ble_eq_true rfl⟩ (fun H locs hP hS _ _ => ?_)
    refine k_if_eq (tgt := 22) hx hb dX4_fail_17 (by decide) (by omega) (fun c17 => ?_) (fun c17 => ?_)
    · skip
      refine k_ic (x := 0) hx hb dX4_fail_22 (by decide) ?_
      refine lv_istore_n (lv' := [(2, .int (nI 0)), (0, .ref (a 0)), (1, .int (nI nd))]) hx hb dX4_fail_23 rfl hl (by decide) rfl (fun ls hl => ?_)
      refine k_ic (x := 0) hx hb dX4_fail_24 (by decide) ?_
      refine lv_istore_n (lv' := [(3, .int (nI 0)), (2, .int (nI 0)), (0, .ref (a 0)), (1, .int (nI nd))]) hx hb dX4_fail_25 rfl hl (by decide) rfl (fun ls hl => ?_)
      exact loop (n + 1) 0 (by omega) (by omega) _ _ hP hS ls (lv_sub hl [0, 1, 2, 3] rfl)
    · exfalso; omega
set_option maxHeartbeats 4000000 in
set_option maxRecDepth 100000 in
/-- fail -/
theorem c_X4_fail (l : Launch) {g : GG} {a : Nat → Nat} {n : Nat} {A : Nat → Prop} (hA : Ap A a 8) {s : CS} (hm : Mh n s) {p nd : Nat} (hnd : nd < n) (hp : p < s 1 0 0) (hpe : s 0 0 p = nd) (hu : ∀ k, k < s 1 0 0 → k ≠ p → s 0 0 k ≠ nd) (hfl : s 2 0 nd = 0) (hct : cntM s n ≠ 1) : Met l yX4_fail wsX4_fail ({ frames := 1, cells := 0, slots := 0, locals := 23 }) (pC g [.ref (a 0), .int (nI nd)] (wM g a s)) (qI g (nI 1) (wM g a (failM s nd p)) A) 0 0 A := by
  refine k_start (cc := cX4_fail) (maxL := 4) (ret := (some .boolean)) (by decide) rfl (Nat.le_of_ble_eq_true rfl) ?_
  intro pr en s0 m args below meth cd hx hb hml hr hlk hts hown hin hC hP ls hl
  have hS : va_S A s0.heap s0.heap [] := va_S.rf
  have hfx : CallFix pr m cd cX4_fail 4 s0 args wsX4_fail RX4 := ⟨hx, hb, hml, hown, hts⟩
  have hu4 : ∀ w ∈ wsX40, w.before args s0 = true := fun w h => hts w ((by decide +kernel : ∀ w ∈ wsX40, w ∈ wsX4_fail) w h)
  have hl : lv_has ls 4 [(0, .ref (a 0)), (1, .int (nI nd))] := hl
  have m0 := hm.1
  have m1 := hm.2.1
  have f1 := hm.nd nd (by omega)
  have loop : ∀ (d k : Nat), n + 1 ≤ k + d → k ≤ n → ∀ (H : Heap) (locs : List Loc), va_P g.1 vwCl (wM g a (w3 s 9 0 0 0)) H → va_S A s0.heap H locs → ∀ ls : Array Slot, lv_has ls 4 [(3, .int (nI k)), (2, .int (nI (cntM s k))), (0, .ref (a 0)), (1, .int (nI nd))] → W pr l en ({ frames := 1, cells := 0, slots := 0, locals := 23 }) s0 m args below meth cd H locs 0 0 (MQ below (qI g (nI 1) (wM g a (failM s nd p)) A) args s0 0 0 A) (F0 m 26 ls []) := by
    intro d
    induction d with
    | zero => intro k h1 h2; exact absurd h1 (by omega)
    | succ d ih =>
      intro k h1 h2 H locs hP hS ls hl
      have f2 := cntM_le s k
      refine lv_iload_n hx hb dX4_fail_26 rfl (lv_at hl 0 rfl) ?_
      refine lv_aload_n hx hb dX4_fail_27 rfl (lv_at hl 2 rfl) ?_
      refine va_get (D := g.1) (C := RX4) (T := TX4) (N := 11) (ci := 4) hx hb hu4 (fun _ h => h) hown hC.1 hP _ (wM_obj) rfl 0 (by decide) (hts (.fieldLink RX4 32 "SplicedChainModel" "nodes" "I") (by decide +kernel)) (fun _ h9 => h9) rfl dX4_fail_28 ?_
      refine k_as (x := s 10 0 0) (by simp [w3]) ?_
      refine k_icmp_ge (tgt := 57) hx hb dX4_fail_31 (by decide) (by omega) (by omega) (fun c31 => ?_) (fun c31 => ?_)
      · skip
        have ek : k = n := by omega
        refine lv_aload_n hx hb dX4_fail_57 rfl (lv_at hl 2 rfl) ?_
        refine va_get (D := g.1) (C := RX4) (T := TX4) (N := 11) (ci := 4) hx hb hu4 (fun _ h => h) hown hC.1 hP _ (wM_obj) rfl 4 (by decide) (hts (.fieldLink RX4 13 "SplicedChainModel" "failed" "[Z") (by decide +kernel)) (fun _ h9 => h9) rfl dX4_fail_58 ?_
        refine lv_iload_n hx hb dX4_fail_61 rfl (lv_at hl 3 rfl) ?_
        refine k_zald hx hb hC hP _ (wM_failed) (j := nd) (by omega) (by omega) dX4_fail_62 ?_
        refine k_as (x := s 2 0 nd) (by simp [w3]) ?_
        refine k_if_ne (tgt := 71) hx hb dX4_fail_63 (by decide) (by omega) (fun c63 => ?_) (fun c63 => ?_)
        · exfalso; omega
        · skip
          refine lv_iload_n hx hb dX4_fail_66 rfl (lv_at hl 1 rfl) ?_
          refine k_ic (x := 1) hx hb dX4_fail_67 (by decide) ?_
          refine k_icmp_ne (tgt := 73) hx hb dX4_fail_68 (by decide) (by omega) (by omega) (fun c68 => ?_) (fun c68 => ?_)
          · skip
            refine lv_aload_n hx hb dX4_fail_73 rfl (lv_at hl 2 rfl) ?_
            refine va_get (D := g.1) (C := RX4) (T := TX4) (N := 11) (ci := 4) hx hb hu4 (fun _ h => h) hown hC.1 hP _ (wM_obj) rfl 4 (by decide) (hts (.fieldLink RX4 13 "SplicedChainModel" "failed" "[Z") (by decide +kernel)) (fun _ h9 => h9) rfl dX4_fail_74 ?_
            refine lv_iload_n hx hb dX4_fail_77 rfl (lv_at hl 3 rfl) ?_
            refine k_ic (x := 1) hx hb dX4_fail_78 (by decide) ?_
            refine k_zast hx hb hC hP hA.M hS _ (wM_failed) (j := nd) (by omega) (by omega) (by decide) dX4_fail_79 wpM_failed (fun H locs hP hS => ?_)
            refine lv_aload_n hx hb dX4_fail_80 rfl (lv_at hl 2 rfl) ?_
            refine va_get (D := g.1) (C := RX4) (T := TX4) (N := 11) (ci := 4) hx hb hu4 (fun _ h => h) hown hC.1 hP _ (wM_obj) rfl 5 (by decide) (hts (.fieldLink RX4 17 "SplicedChainModel" "open" "[Z") (by decide +kernel)) (fun _ h9 => h9) rfl dX4_fail_81 ?_
            refine lv_iload_n hx hb dX4_fail_84 rfl (lv_at hl 3 rfl) ?_
            refine k_ic (x := 0) hx hb dX4_fail_85 (by decide) ?_
            refine k_zast hx hb hC hP hA.M hS _ (wM_open) (j := nd) (by omega) (by omega) (by decide) dX4_fail_86 wpM_open (fun H locs hP hS => ?_)
            refine lv_aload_n hx hb dX4_fail_87 rfl (lv_at hl 2 rfl) ?_
            refine lv_iload_n hx hb dX4_fail_88 rfl (lv_at hl 3 rfl) ?_
            refine kV_i (r := nI p) (w2 := wM g a (w3 (w3 (w3 s 9 0 0 0) 2 0 nd 1) 3 0 nd 0)) (As := [.int (nI nd)]) (b := a 0) (rest := []) (A1 := A) hfx (c_X4_placeOf l hA (s := (w3 (w3 (w3 s 9 0 0 0) 2 0 nd 1) 3 0 nd 0)) ((hm.m9.m2 (by omega)).m3 (by omega)) (nd := nd) (p := p) (by omega) (by simp [w3]; exact hp) (by simp [w3]; exact hpe) (fun k hk hne => by simp [w3] at hk ⊢; exact hu k hk hne)) (cwV 1 hts gX4_fail_X4_placeOf rfl rfl rfl (by decide +kernel) ⟨by decide, by decide⟩) (va_recv hC.1 hP (ci := 4) rfl (wM_obj)) hC hP hS (fun _ h => h) rfl hl.1 rfl (Nat.le_of_ble_eq_true rfl) dX4_fail_89 ⟨Nat.le_of_ble_eq_true rfl, Nat.le_of_ble_eq_true rfl⟩ (fun H locs hP hS _ _ => ?_)
            have f4 := hm.ch (p - 1) (by omega)
            refine lv_istore_n (lv' := [(3, .int (nI p)), (2, .int (nI (cntM s k))), (0, .ref (a 0)), (1, .int (nI nd))]) hx hb dX4_fail_92 rfl hl (by decide) rfl (fun ls hl => ?_)
            refine lv_iload_n hx hb dX4_fail_93 rfl (lv_at hl 0 rfl) ?_
            refine k_if_le (tgt := 111) hx hb dX4_fail_94 (by decide) (by omega) (fun c94 => ?_) (fun c94 => ?_)
            · skip
              refine k_ic (x := 1) hx hb dX4_fail_111 (by decide) ?_
              exact k_zret hx hb hr hlk (by rfl) (by decide) (P_eq (congrArg (wM g a) (by unfold failM; first | rw [if_pos (by omega)] | rw [if_neg (by omega)])) hP) hS dX4_fail_112
            · skip
              refine lv_aload_n hx hb dX4_fail_97 rfl (lv_at hl 2 rfl) ?_
              refine va_get (D := g.1) (C := RX4) (T := TX4) (N := 11) (ci := 4) hx hb hu4 (fun _ h => h) hown hC.1 hP _ (wM_obj) rfl 5 (by decide) (hts (.fieldLink RX4 17 "SplicedChainModel" "open" "[Z") (by decide +kernel)) (fun _ h9 => h9) rfl dX4_fail_98 ?_
              refine lv_aload_n hx hb dX4_fail_101 rfl (lv_at hl 2 rfl) ?_
              refine va_get (D := g.1) (C := RX4) (T := TX4) (N := 11) (ci := 4) hx hb hu4 (fun _ h => h) hown hC.1 hP _ (wM_obj) rfl 3 (by decide) (hts (.fieldLink RX4 7 "SplicedChainModel" "chain" "[I") (by decide +kernel)) (fun _ h9 => h9) rfl dX4_fail_102 ?_
              refine lv_iload_n hx hb dX4_fail_105 rfl (lv_at hl 0 rfl) ?_
              refine k_ic (x := 1) hx hb dX4_fail_106 (by decide) ?_
              refine k_isub (x := p) (y := 1) hx hb (by omega) dX4_fail_107 ?_
              refine k_iald hx hb hC hP _ (wM_chain) (j := p - 1) (by omega) (by omega) dX4_fail_108 ?_
              refine k_as (x := s 0 0 (p - 1)) (by simp [w3]) ?_
              refine k_ic (x := 0) hx hb dX4_fail_109 (by decide) ?_
              refine k_zast hx hb hC hP hA.M hS _ (wM_open) (j := s 0 0 (p - 1)) (by omega) (by omega) (by decide) dX4_fail_110 wpM_open (fun H locs hP hS => ?_)
              refine k_ic (x := 1) hx hb dX4_fail_111 (by decide) ?_
              exact k_zret hx hb hr hlk (by rfl) (by decide) (P_eq (congrArg (wM g a) (by unfold failM; first | rw [if_pos (by omega)] | rw [if_neg (by omega)])) hP) hS dX4_fail_112
          · exfalso; rw [ek] at c68; omega
      · skip
        have f3 := hm.nd k (by omega)
        refine lv_aload_n hx hb dX4_fail_34 rfl (lv_at hl 2 rfl) ?_
        refine va_get (D := g.1) (C := RX4) (T := TX4) (N := 11) (ci := 4) hx hb hu4 (fun _ h => h) hown hC.1 hP _ (wM_obj) rfl 4 (by decide) (hts (.fieldLink RX4 13 "SplicedChainModel" "failed" "[Z") (by decide +kernel)) (fun _ h9 => h9) rfl dX4_fail_35 ?_
        refine lv_iload_n hx hb dX4_fail_38 rfl (lv_at hl 0 rfl) ?_
        refine k_zald hx hb hC hP _ (wM_failed) (j := k) (by omega) (by omega) dX4_fail_39 ?_
        refine k_as (x := s 2 0 k) (by simp [w3]) ?_
        refine k_if_eq (tgt := 47) hx hb dX4_fail_40 (by decide) (by omega) (fun c40 => ?_) (fun c40 => ?_)
        · skip
          refine lv_iload_n hx hb dX4_fail_47 rfl (lv_at hl 1 rfl) ?_
          refine k_ic (x := 1) hx hb dX4_fail_48 (by decide) ?_
          refine k_iadd (x := cntM s k) (y := 1) hx hb dX4_fail_49 ?_
          refine lv_istore_n (lv' := [(2, .int (nI ((cntM s k) + 1))), (3, .int (nI k)), (0, .ref (a 0)), (1, .int (nI nd))]) hx hb dX4_fail_50 rfl hl (by decide) rfl (fun ls hl => ?_)
          refine lv_iinc (v := nI (k + 1)) (lv' := [(3, .int (nI (k + 1))), (2, .int (nI ((cntM s k) + 1))), (0, .ref (a 0)), (1, .int (nI nd))]) hx hb dX4_fail_51 hl (k := 1) rfl (nI_add _ _) (by decide) rfl (fun ls hl => ?_)
          refine lv_goto (tgt := 26) hx hb dX4_fail_54 (by decide) ?_
          exact ih (k + 1) (by omega) (by omega) H locs hP hS ls (by rw [show cntM s (k + 1) = (cntM s k) + 1 by simp [cntM, c40]]; exact lv_sub hl [0, 1, 2, 3] rfl)
        · skip
          refine lv_iload_n hx hb dX4_fail_43 rfl (lv_at hl 1 rfl) ?_
          refine lv_goto (tgt := 50) hx hb dX4_fail_44 (by decide) ?_
          refine lv_istore_n (lv' := [(2, .int (nI (cntM s k))), (3, .int (nI k)), (0, .ref (a 0)), (1, .int (nI nd))]) hx hb dX4_fail_50 rfl hl (by decide) rfl (fun ls hl => ?_)
          refine lv_iinc (v := nI (k + 1)) (lv' := [(3, .int (nI (k + 1))), (2, .int (nI (cntM s k))), (0, .ref (a 0)), (1, .int (nI nd))]) hx hb dX4_fail_51 hl (k := 1) rfl (nI_add _ _) (by decide) rfl (fun ls hl => ?_)
          refine lv_goto (tgt := 26) hx hb dX4_fail_54 (by decide) ?_
          exact ih (k + 1) (by omega) (by omega) H locs hP hS ls (by rw [show cntM s (k + 1) = cntM s k by simp [cntM, c40]]; exact lv_sub hl [0, 1, 2, 3] rfl)
  refine lv_aload_n hx hb dX4_fail_0 rfl (lv_at hl 0 rfl) ?_
  refine lv_aload_n hx hb dX4_fail_1 rfl (lv_at hl 0 rfl) ?_
  refine lv_iload_n hx hb dX4_fail_2 rfl (lv_at hl 1 rfl) ?_
  refine kV_i (r := nI 1) (w2 := wM g a s) (As := [.int (nI nd)]) (b := a 0) (rest := [.ref (a 0)]) (A1 := A) hfx (c_X4_isNode l hA (s := s) (hm) (j := nd) (by omega)) (cwV 1 hts gX4_fail_X4_isNode rfl rfl rfl (by decide +kernel) ⟨by decide, by decide⟩) (va_recv hC.1 hP (ci := 4) rfl (wM_obj)) hC hP hS (fun _ h => h) rfl hl.1 rfl (Nat.le_of_ble_eq_true rfl) dX4_fail_3 ⟨Nat.le_of_ble_eq_true rfl, Nat.le_of_ble_eq_true rfl⟩ (fun H locs hP hS _ _ => ?_)
  refine k_if_eq (tgt := 13) hx hb dX4_fail_6 (by decide) (by omega) (fun c6 => ?_) (fun c6 => ?_)
  · exfalso; omega
  · skip
    refine k_ic (x := 0) hx hb dX4_fail_9 (by decide) ?_
    refine lv_goto (tgt := 14) hx hb dX4_fail_10 (by decide) ?_
    refine kV_i (r := nI 0) (w2 := wM g a (w3 s 9 0 0 0)) (As := [.int (nI 0)]) (b := a 0) (rest := []) (A1 := A) hfx (c_X4_throwsIt_0 l (n := n) hA (s := s)) (cwV 1 hts gX4_fail_X4_throwsIt rfl rfl rfl (by decide +kernel) ⟨by decide, by decide⟩) (va_recv hC.1 hP (ci := 4) rfl (wM_obj)) hC hP hS (fun _ h => h) rfl hl.1 rfl (Nat.le_of_ble_eq_true rfl) dX4_fail_14 ⟨Nat.le_of_ble_eq_true rfl, Nat.le_of_ble_eq_true rfl⟩ (fun H locs hP hS _ _ => ?_)
    refine k_if_eq (tgt := 22) hx hb dX4_fail_17 (by decide) (by omega) (fun c17 => ?_) (fun c17 => ?_)
    · skip
      refine k_ic (x := 0) hx hb dX4_fail_22 (by decide) ?_
      refine lv_istore_n (lv' := [(2, .int (nI 0)), (0, .ref (a 0)), (1, .int (nI nd))]) hx hb dX4_fail_23 rfl hl (by decide) rfl (fun ls hl => ?_)
      refine k_ic (x := 0) hx hb dX4_fail_24 (by decide) ?_
      refine lv_istore_n (lv' := [(3, .int (nI 0)), (2, .int (nI 0)), (0, .ref (a 0)), (1, .int (nI nd))]) hx hb dX4_fail_25 rfl hl (by decide) rfl (fun ls hl => ?_)
      exact loop (n + 1) 0 (by omega) (by omega) _ _ hP hS ls (lv_sub hl [0, 1, 2, 3] rfl)
    · exfalso; omega
set_option maxHeartbeats 4000000 in
set_option maxRecDepth 100000 in
/-- resync: no node -/
theorem c_X4_resync_1 (l : Launch) {g : GG} {a : Nat → Nat} {n : Nat} {A : Nat → Prop} (hA : Ap A a 8) {s : CS} (hm : Mh n s) {x : Int32} (hbad : x < 0 ∨ nI n ≤ x) : Met l yX4_resync wsX4_resync ({ frames := 1, cells := 0, slots := 0, locals := 23 }) (pC g [.ref (a 0), .int (x)] (wM g a s)) (qI g (nI 0) (wM g a (w3 s 9 0 0 1)) A) 0 0 A := by
  refine k_start (cc := cX4_resync) (maxL := 3) (ret := (some .int)) (by decide) rfl (Nat.le_of_ble_eq_true rfl) ?_
  intro pr en s0 m args below meth cd hx hb hml hr hlk hts hown hin hC hP ls hl
  have hS : va_S A s0.heap s0.heap [] := va_S.rf
  have hfx : CallFix pr m cd cX4_resync 3 s0 args wsX4_resync RX4 := ⟨hx, hb, hml, hown, hts⟩
  have hu4 : ∀ w ∈ wsX40, w.before args s0 = true := fun w h => hts w ((by decide +kernel : ∀ w ∈ wsX40, w ∈ wsX4_resync) w h)
  have hl : lv_has ls 3 [(0, .ref (a 0)), (1, .int (x))] := hl
  have m0 := hm.1
  have m1 := hm.2.1
  refine lv_aload_n hx hb dX4_resync_0 rfl (lv_at hl 0 rfl) ?_
  refine lv_iload_n hx hb dX4_resync_1 rfl (lv_at hl 1 rfl) ?_
  refine kV_i (r := nI 0) (w2 := wM g a s) (As := [.int (x)]) (b := a 0) (rest := []) (A1 := A) hfx (c_X4_isNode_no l hA (s := s) (hm) (x := x) hbad) (cwV 1 hts gX4_resync_X4_isNode rfl rfl rfl (by decide +kernel) ⟨by decide, by decide⟩) (va_recv hC.1 hP (ci := 4) rfl (wM_obj)) hC hP hS (fun _ h => h) rfl hl.1 rfl (Nat.le_of_ble_eq_true rfl) dX4_resync_2 ⟨Nat.le_of_ble_eq_true rfl, Nat.le_of_ble_eq_true rfl⟩ (fun H locs hP hS _ _ => ?_)
  refine k_if_eq (tgt := 16) hx hb dX4_resync_5 (by decide) (by omega) (fun c5 => ?_) (fun c5 => ?_)
  · skip
    refine lv_iconst (v := -1) hx hb dX4_resync_16 (by decide) ?_
    refine lv_istore_n (lv' := [(2, .int (-1)), (0, .ref (a 0)), (1, .int (x))]) hx hb dX4_resync_17 rfl hl (by decide) rfl (fun ls hl => ?_)
    refine lv_aload_n hx hb dX4_resync_18 rfl (lv_at hl 1 rfl) ?_
    refine lv_aload_n hx hb dX4_resync_19 rfl (lv_at hl 1 rfl) ?_
    refine lv_iload_n hx hb dX4_resync_20 rfl (lv_at hl 2 rfl) ?_
    refine kV_i (r := nI 0) (w2 := wM g a s) (As := [.int (x)]) (b := a 0) (rest := [.ref (a 0)]) (A1 := A) hfx (c_X4_isNode_no l hA (s := s) (hm) (x := x) hbad) (cwV 1 hts gX4_resync_X4_isNode rfl rfl rfl (by decide +kernel) ⟨by decide, by decide⟩) (va_recv hC.1 hP (ci := 4) rfl (wM_obj)) hC hP hS (fun _ h => h) rfl hl.1 rfl (Nat.le_of_ble_eq_true rfl) dX4_resync_21 ⟨Nat.le_of_ble_eq_true rfl, Nat.le_of_ble_eq_true rfl⟩ (fun H locs hP hS _ _ => ?_)
    refine k_if_ne (tgt := 31) hx hb dX4_resync_24 (by decide) (by omega) (fun c24 => ?_) (fun c24 => ?_)
    · exfalso; omega
    · skip
      refine k_ic (x := 1) hx hb dX4_resync_27 (by decide) ?_
      refine lv_goto (tgt := 80) hx hb dX4_resync_28 (by decide) ?_
      refine kV_i (r := nI 1) (w2 := wM g a (w3 s 9 0 0 1)) (As := [.int (nI 1)]) (b := a 0) (rest := []) (A1 := A) hfx (c_X4_throwsIt l (n := n) hA (s := s) (c := 1) (by decide)) (cwV 1 hts gX4_resync_X4_throwsIt rfl rfl rfl (by decide +kernel) ⟨by decide, by decide⟩) (va_recv hC.1 hP (ci := 4) rfl (wM_obj)) hC hP hS (fun _ h => h) rfl hl.1 rfl (Nat.le_of_ble_eq_true rfl) dX4_resync_80 ⟨Nat.le_of_ble_eq_true rfl, Nat.le_of_ble_eq_true rfl⟩ (fun H locs hP hS _ _ => ?_)
      refine k_if_eq (tgt := 88) hx hb dX4_resync_83 (by decide) (by omega) (fun c83 => ?_) (fun c83 => ?_)
      · exfalso; omega
      · skip
        refine k_ic (x := 0) hx hb dX4_resync_86 (by decide) ?_
        exact k_iret hx hb hr hlk (by rfl) hP hS dX4_resync_87
  · exfalso; omega
set_option maxHeartbeats 4000000 in
set_option maxRecDepth 100000 in
/-- resync: refused -/
theorem c_X4_resync_2 (l : Launch) {g : GG} {a : Nat → Nat} {n : Nat} {A : Nat → Prop} (hA : Ap A a 8) {s : CS} (hm : Mh n s) {p nd : Nat} (hnd : nd < n) (hp : p < s 1 0 0) (hpe : s 0 0 p = nd) (hu : ∀ k, k < s 1 0 0 → k ≠ p → s 0 0 k ≠ nd) (hno : s 2 0 nd ≠ 0 ∨ p + 1 = s 1 0 0 ∨ s 2 0 (s 0 0 (p + 1)) ≠ 0 ∨ s 3 0 nd ≠ 0) : Met l yX4_resync wsX4_resync ({ frames := 1, cells := 0, slots := 0, locals := 23 }) (pC g [.ref (a 0), .int (nI nd)] (wM g a s)) (qI g (nI 0) (wM g a (w3 s 9 0 0 2)) A) 0 0 A := by
  refine k_start (cc := cX4_resync) (maxL := 3) (ret := (some .int)) (by decide) rfl (Nat.le_of_ble_eq_true rfl) ?_
  intro pr en s0 m args below meth cd hx hb hml hr hlk hts hown hin hC hP ls hl
  have hS : va_S A s0.heap s0.heap [] := va_S.rf
  have hfx : CallFix pr m cd cX4_resync 3 s0 args wsX4_resync RX4 := ⟨hx, hb, hml, hown, hts⟩
  have hu4 : ∀ w ∈ wsX40, w.before args s0 = true := fun w h => hts w ((by decide +kernel : ∀ w ∈ wsX40, w ∈ wsX4_resync) w h)
  have hl : lv_has ls 3 [(0, .ref (a 0)), (1, .int (nI nd))] := hl
  have m0 := hm.1
  have m1 := hm.2.1
  have f1 := hm.nd nd (by omega)
  refine lv_aload_n hx hb dX4_resync_0 rfl (lv_at hl 0 rfl) ?_
  refine lv_iload_n hx hb dX4_resync_1 rfl (lv_at hl 1 rfl) ?_
  refine kV_i (r := nI 1) (w2 := wM g a s) (As := [.int (nI nd)]) (b := a 0) (rest := []) (A1 := A) hfx (c_X4_isNode l hA (s := s) (hm) (j := nd) (by omega)) (cwV 1 hts gX4_resync_X4_isNode rfl rfl rfl (by decide +kernel) ⟨by decide, by decide⟩) (va_recv hC.1 hP (ci := 4) rfl (wM_obj)) hC hP hS (fun _ h => h) rfl hl.1 rfl (Nat.le_of_ble_eq_true rfl) dX4_resync_2 ⟨Nat.le_of_ble_eq_true rfl, Nat.le_of_ble_eq_true rfl⟩ (fun H locs hP hS _ _ => ?_)
  refine k_if_eq (tgt := 16) hx hb dX4_resync_5 (by decide) (by omega) (fun c5 => ?_) (fun c5 => ?_)
  · exfalso; omega
  · skip
    refine lv_aload_n hx hb dX4_resync_8 rfl (lv_at hl 0 rfl) ?_
    refine lv_iload_n hx hb dX4_resync_9 rfl (lv_at hl 1 rfl) ?_
    refine kV_i (r := nI p) (w2 := wM g a s) (As := [.int (nI nd)]) (b := a 0) (rest := []) (A1 := A) hfx (c_X4_placeOf l hA (s := s) (hm) (nd := nd) (p := p) (by omega) (hp) (hpe) (hu)) (cwV 1 hts gX4_resync_X4_placeOf rfl rfl rfl (by decide +kernel) ⟨by decide, by decide⟩) (va_recv hC.1 hP (ci := 4) rfl (wM_obj)) hC hP hS (fun _ h => h) rfl hl.1 rfl (Nat.le_of_ble_eq_true rfl) dX4_resync_10 ⟨Nat.le_of_ble_eq_true rfl, Nat.le_of_ble_eq_true rfl⟩ (fun H locs hP hS _ _ => ?_)
    refine lv_goto (tgt := 17) hx hb dX4_resync_13 (by decide) ?_
    refine lv_istore_n (lv' := [(2, .int (nI p)), (0, .ref (a 0)), (1, .int (nI nd))]) hx hb dX4_resync_17 rfl hl (by decide) rfl (fun ls hl => ?_)
    refine lv_aload_n hx hb dX4_resync_18 rfl (lv_at hl 1 rfl) ?_
    refine lv_aload_n hx hb dX4_resync_19 rfl (lv_at hl 1 rfl) ?_
    refine lv_iload_n hx hb dX4_resync_20 rfl (lv_at hl 2 rfl) ?_
    refine kV_i (r := nI 1) (w2 := wM g a s) (As := [.int (nI nd)]) (b := a 0) (rest := [.ref (a 0)]) (A1 := A) hfx (c_X4_isNode l hA (s := s) (hm) (j := nd) (by omega)) (cwV 1 hts gX4_resync_X4_isNode rfl rfl rfl (by decide +kernel) ⟨by decide, by decide⟩) (va_recv hC.1 hP (ci := 4) rfl (wM_obj)) hC hP hS (fun _ h => h) rfl hl.1 rfl (Nat.le_of_ble_eq_true rfl) dX4_resync_21 ⟨Nat.le_of_ble_eq_true rfl, Nat.le_of_ble_eq_true rfl⟩ (fun H locs hP hS _ _ => ?_)
    refine k_if_ne (tgt := 31) hx hb dX4_resync_24 (by decide) (by omega) (fun c24 => ?_) (fun c24 => ?_)
    · skip
      refine lv_aload_n hx hb dX4_resync_31 rfl (lv_at hl 1 rfl) ?_
      refine va_get (D := g.1) (C := RX4) (T := TX4) (N := 11) (ci := 4) hx hb hu4 (fun _ h => h) hown hC.1 hP _ (wM_obj) rfl 4 (by decide) (hts (.fieldLink RX4 13 "SplicedChainModel" "failed" "[Z") (by decide +kernel)) (fun _ h9 => h9) rfl dX4_resync_32 ?_
      refine lv_iload_n hx hb dX4_resync_35 rfl (lv_at hl 2 rfl) ?_
      refine k_zald hx hb hC hP _ (wM_failed) (j := nd) (by omega) (by omega) dX4_resync_36 ?_
      refine k_if_ne (tgt := 75) hx hb dX4_resync_37 (by decide) (by omega) (fun c37 => ?_) (fun c37 => ?_)
      · skip
        refine k_ic (x := 2) hx hb dX4_resync_75 (by decide) ?_
        refine lv_goto (tgt := 80) hx hb dX4_resync_76 (by decide) ?_
        refine kV_i (r := nI 1) (w2 := wM g a (w3 s 9 0 0 2)) (As := [.int (nI 2)]) (b := a 0) (rest := []) (A1 := A) hfx (c_X4_throwsIt l (n := n) hA (s := s) (c := 2) (by decide)) (cwV 1 hts gX4_resync_X4_throwsIt rfl rfl rfl (by decide +kernel) ⟨by decide, by decide⟩) (va_recv hC.1 hP (ci := 4) rfl (wM_obj)) hC hP hS (fun _ h => h) rfl hl.1 rfl (Nat.le_of_ble_eq_true rfl) dX4_resync_80 ⟨Nat.le_of_ble_eq_true rfl, Nat.le_of_ble_eq_true rfl⟩ (fun H locs hP hS _ _ => ?_)
        refine k_if_eq (tgt := 88) hx hb dX4_resync_83 (by decide) (by omega) (fun c83 => ?_) (fun c83 => ?_)
        · exfalso; omega
        · skip
          refine k_ic (x := 0) hx hb dX4_resync_86 (by decide) ?_
          exact k_iret hx hb hr hlk (by rfl) hP hS dX4_resync_87
      · skip
        refine lv_iload_n hx hb dX4_resync_40 rfl (lv_at hl 0 rfl) ?_
        refine lv_aload_n hx hb dX4_resync_41 rfl (lv_at hl 1 rfl) ?_
        refine va_get (D := g.1) (C := RX4) (T := TX4) (N := 11) (ci := 4) hx hb hu4 (fun _ h => h) hown hC.1 hP _ (wM_obj) rfl 2 (by decide) (hts (.fieldLink RX4 36 "SplicedChainModel" "size" "I") (by decide +kernel)) (fun _ h9 => h9) rfl dX4_resync_42 ?_
        refine k_ic (x := 1) hx hb dX4_resync_45 (by decide) ?_
        refine k_isub (x := s 1 0 0) (y := 1) hx hb (by omega) dX4_resync_46 ?_
        refine k_icmp_eq (tgt := 75) hx hb dX4_resync_47 (by decide) (by omega) (by omega) (fun c47 => ?_) (fun c47 => ?_)
        · skip
          refine k_ic (x := 2) hx hb dX4_resync_75 (by decide) ?_
          refine lv_goto (tgt := 80) hx hb dX4_resync_76 (by decide) ?_
          refine kV_i (r := nI 1) (w2 := wM g a (w3 s 9 0 0 2)) (As := [.int (nI 2)]) (b := a 0) (rest := []) (A1 := A) hfx (c_X4_throwsIt l (n := n) hA (s := s) (c := 2) (by decide)) (cwV 1 hts gX4_resync_X4_throwsIt rfl rfl rfl (by decide +kernel) ⟨by decide, by decide⟩) (va_recv hC.1 hP (ci := 4) rfl (wM_obj)) hC hP hS (fun _ h => h) rfl hl.1 rfl (Nat.le_of_ble_eq_true rfl) dX4_resync_80 ⟨Nat.le_of_ble_eq_true rfl, Nat.le_of_ble_eq_true rfl⟩ (fun H locs hP hS _ _ => ?_)
          refine k_if_eq (tgt := 88) hx hb dX4_resync_83 (by decide) (by omega) (fun c83 => ?_) (fun c83 => ?_)
          · exfalso; omega
          · skip
            refine k_ic (x := 0) hx hb dX4_resync_86 (by decide) ?_
            exact k_iret hx hb hr hlk (by rfl) hP hS dX4_resync_87
        · skip
          have f2 := hm.ch (p + 1) (by omega)
          have f3 := hm.nd _ f2
          refine lv_aload_n hx hb dX4_resync_50 rfl (lv_at hl 1 rfl) ?_
          refine va_get (D := g.1) (C := RX4) (T := TX4) (N := 11) (ci := 4) hx hb hu4 (fun _ h => h) hown hC.1 hP _ (wM_obj) rfl 4 (by decide) (hts (.fieldLink RX4 13 "SplicedChainModel" "failed" "[Z") (by decide +kernel)) (fun _ h9 => h9) rfl dX4_resync_51 ?_
          refine lv_aload_n hx hb dX4_resync_54 rfl (lv_at hl 1 rfl) ?_
          refine va_get (D := g.1) (C := RX4) (T := TX4) (N := 11) (ci := 4) hx hb hu4 (fun _ h => h) hown hC.1 hP _ (wM_obj) rfl 3 (by decide) (hts (.fieldLink RX4 7 "SplicedChainModel" "chain" "[I") (by decide +kernel)) (fun _ h9 => h9) rfl dX4_resync_55 ?_
          refine lv_iload_n hx hb dX4_resync_58 rfl (lv_at hl 0 rfl) ?_
          refine k_ic (x := 1) hx hb dX4_resync_59 (by decide) ?_
          refine k_iadd (x := p) (y := 1) hx hb dX4_resync_60 ?_
          refine k_iald hx hb hC hP _ (wM_chain) (j := p + 1) (by omega) (by omega) dX4_resync_61 ?_
          refine k_zald hx hb hC hP _ (wM_failed) (j := s 0 0 (p + 1)) (by omega) (by omega) dX4_resync_62 ?_
          refine k_if_ne (tgt := 75) hx hb dX4_resync_63 (by decide) (by omega) (fun c63 => ?_) (fun c63 => ?_)
          · skip
            refine k_ic (x := 2) hx hb dX4_resync_75 (by decide) ?_
            refine lv_goto (tgt := 80) hx hb dX4_resync_76 (by decide) ?_
            refine kV_i (r := nI 1) (w2 := wM g a (w3 s 9 0 0 2)) (As := [.int (nI 2)]) (b := a 0) (rest := []) (A1 := A) hfx (c_X4_throwsIt l (n := n) hA (s := s) (c := 2) (by decide)) (cwV 1 hts gX4_resync_X4_throwsIt rfl rfl rfl (by decide +kernel) ⟨by decide, by decide⟩) (va_recv hC.1 hP (ci := 4) rfl (wM_obj)) hC hP hS (fun _ h => h) rfl hl.1 rfl (Nat.le_of_ble_eq_true rfl) dX4_resync_80 ⟨Nat.le_of_ble_eq_true rfl, Nat.le_of_ble_eq_true rfl⟩ (fun H locs hP hS _ _ => ?_)
            refine k_if_eq (tgt := 88) hx hb dX4_resync_83 (by decide) (by omega) (fun c83 => ?_) (fun c83 => ?_)
            · exfalso; omega
            · skip
              refine k_ic (x := 0) hx hb dX4_resync_86 (by decide) ?_
              exact k_iret hx hb hr hlk (by rfl) hP hS dX4_resync_87
          · skip
            refine lv_aload_n hx hb dX4_resync_66 rfl (lv_at hl 1 rfl) ?_
            refine va_get (D := g.1) (C := RX4) (T := TX4) (N := 11) (ci := 4) hx hb hu4 (fun _ h => h) hown hC.1 hP _ (wM_obj) rfl 5 (by decide) (hts (.fieldLink RX4 17 "SplicedChainModel" "open" "[Z") (by decide +kernel)) (fun _ h9 => h9) rfl dX4_resync_67 ?_
            refine lv_iload_n hx hb dX4_resync_70 rfl (lv_at hl 2 rfl) ?_
            refine k_zald hx hb hC hP _ (wM_open) (j := nd) (by omega) (by omega) dX4_resync_71 ?_
            refine k_if_eq (tgt := 79) hx hb dX4_resync_72 (by decide) (by omega) (fun c72 => ?_) (fun c72 => ?_)
            · exfalso; omega
            · skip
              refine k_ic (x := 2) hx hb dX4_resync_75 (by decide) ?_
              refine lv_goto (tgt := 80) hx hb dX4_resync_76 (by decide) ?_
              refine kV_i (r := nI 1) (w2 := wM g a (w3 s 9 0 0 2)) (As := [.int (nI 2)]) (b := a 0) (rest := []) (A1 := A) hfx (c_X4_throwsIt l (n := n) hA (s := s) (c := 2) (by decide)) (cwV 1 hts gX4_resync_X4_throwsIt rfl rfl rfl (by decide +kernel) ⟨by decide, by decide⟩) (va_recv hC.1 hP (ci := 4) rfl (wM_obj)) hC hP hS (fun _ h => h) rfl hl.1 rfl (Nat.le_of_ble_eq_true rfl) dX4_resync_80 ⟨Nat.le_of_ble_eq_true rfl, Nat.le_of_ble_eq_true rfl⟩ (fun H locs hP hS _ _ => ?_)
              refine k_if_eq (tgt := 88) hx hb dX4_resync_83 (by decide) (by omega) (fun c83 => ?_) (fun c83 => ?_)
              · exfalso; omega
              · skip
                refine k_ic (x := 0) hx hb dX4_resync_86 (by decide) ?_
                exact k_iret hx hb hr hlk (by rfl) hP hS dX4_resync_87
    · exfalso; omega
set_option maxHeartbeats 4000000 in
set_option maxRecDepth 100000 in
/-- resync: out of the chain -/
theorem c_X4_resync_2o (l : Launch) {g : GG} {a : Nat → Nat} {n : Nat} {A : Nat → Prop} (hA : Ap A a 8) {s : CS} (hm : Mh n s) {nd : Nat} (hnd : nd < n) (hno : ∀ k, k < s 1 0 0 → s 0 0 k ≠ nd) (hfl : s 2 0 nd ≠ 0) : Met l yX4_resync wsX4_resync ({ frames := 1, cells := 0, slots := 0, locals := 23 }) (pC g [.ref (a 0), .int (nI nd)] (wM g a s)) (qI g (nI 0) (wM g a (w3 s 9 0 0 2)) A) 0 0 A := by
  refine k_start (cc := cX4_resync) (maxL := 3) (ret := (some .int)) (by decide) rfl (Nat.le_of_ble_eq_true rfl) ?_
  intro pr en s0 m args below meth cd hx hb hml hr hlk hts hown hin hC hP ls hl
  have hS : va_S A s0.heap s0.heap [] := va_S.rf
  have hfx : CallFix pr m cd cX4_resync 3 s0 args wsX4_resync RX4 := ⟨hx, hb, hml, hown, hts⟩
  have hu4 : ∀ w ∈ wsX40, w.before args s0 = true := fun w h => hts w ((by decide +kernel : ∀ w ∈ wsX40, w ∈ wsX4_resync) w h)
  have hl : lv_has ls 3 [(0, .ref (a 0)), (1, .int (nI nd))] := hl
  have m0 := hm.1
  have m1 := hm.2.1
  have f1 := hm.nd nd (by omega)
  refine lv_aload_n hx hb dX4_resync_0 rfl (lv_at hl 0 rfl) ?_
  refine lv_iload_n hx hb dX4_resync_1 rfl (lv_at hl 1 rfl) ?_
  refine kV_i (r := nI 1) (w2 := wM g a s) (As := [.int (nI nd)]) (b := a 0) (rest := []) (A1 := A) hfx (c_X4_isNode l hA (s := s) (hm) (j := nd) (by omega)) (cwV 1 hts gX4_resync_X4_isNode rfl rfl rfl (by decide +kernel) ⟨by decide, by decide⟩) (va_recv hC.1 hP (ci := 4) rfl (wM_obj)) hC hP hS (fun _ h => h) rfl hl.1 rfl (Nat.le_of_ble_eq_true rfl) dX4_resync_2 ⟨Nat.le_of_ble_eq_true rfl, Nat.le_of_ble_eq_true rfl⟩ (fun H locs hP hS _ _ => ?_)
  refine k_if_eq (tgt := 16) hx hb dX4_resync_5 (by decide) (by omega) (fun c5 => ?_) (fun c5 => ?_)
  · exfalso; omega
  · skip
    refine lv_aload_n hx hb dX4_resync_8 rfl (lv_at hl 0 rfl) ?_
    refine lv_iload_n hx hb dX4_resync_9 rfl (lv_at hl 1 rfl) ?_
    refine kV_i (r := -1) (w2 := wM g a s) (As := [.int (nI nd)]) (b := a 0) (rest := []) (A1 := A) hfx (c_X4_placeOf_no l hA (s := s) (hm) (nd := nd) (by omega) (hno)) (cwV 1 hts gX4_resync_X4_placeOf rfl rfl rfl (by decide +kernel) ⟨by decide, by decide⟩) (va_recv hC.1 hP (ci := 4) rfl (wM_obj)) hC hP hS (fun _ h => h) rfl hl.1 rfl (Nat.le_of_ble_eq_true rfl) dX4_resync_10 ⟨Nat.le_of_ble_eq_true rfl, Nat.le_of_ble_eq_true rfl⟩ (fun H locs hP hS _ _ => ?_)
    refine lv_goto (tgt := 17) hx hb dX4_resync_13 (by decide) ?_
    refine lv_istore_n (lv' := [(2, .int (-1)), (0, .ref (a 0)), (1, .int (nI nd))]) hx hb dX4_resync_17 rfl hl (by decide) rfl (fun ls hl => ?_)
    refine lv_aload_n hx hb dX4_resync_18 rfl (lv_at hl 1 rfl) ?_
    refine lv_aload_n hx hb dX4_resync_19 rfl (lv_at hl 1 rfl) ?_
    refine lv_iload_n hx hb dX4_resync_20 rfl (lv_at hl 2 rfl) ?_
    refine kV_i (r := nI 1) (w2 := wM g a s) (As := [.int (nI nd)]) (b := a 0) (rest := [.ref (a 0)]) (A1 := A) hfx (c_X4_isNode l hA (s := s) (hm) (j := nd) (by omega)) (cwV 1 hts gX4_resync_X4_isNode rfl rfl rfl (by decide +kernel) ⟨by decide, by decide⟩) (va_recv hC.1 hP (ci := 4) rfl (wM_obj)) hC hP hS (fun _ h => h) rfl hl.1 rfl (Nat.le_of_ble_eq_true rfl) dX4_resync_21 ⟨Nat.le_of_ble_eq_true rfl, Nat.le_of_ble_eq_true rfl⟩ (fun H locs hP hS _ _ => ?_)
    refine k_if_ne (tgt := 31) hx hb dX4_resync_24 (by decide) (by omega) (fun c24 => ?_) (fun c24 => ?_)
    · skip
      refine lv_aload_n hx hb dX4_resync_31 rfl (lv_at hl 1 rfl) ?_
      refine va_get (D := g.1) (C := RX4) (T := TX4) (N := 11) (ci := 4) hx hb hu4 (fun _ h => h) hown hC.1 hP _ (wM_obj) rfl 4 (by decide) (hts (.fieldLink RX4 13 "SplicedChainModel" "failed" "[Z") (by decide +kernel)) (fun _ h9 => h9) rfl dX4_resync_32 ?_
      refine lv_iload_n hx hb dX4_resync_35 rfl (lv_at hl 2 rfl) ?_
      refine k_zald hx hb hC hP _ (wM_failed) (j := nd) (by omega) (by omega) dX4_resync_36 ?_
      refine k_if_ne (tgt := 75) hx hb dX4_resync_37 (by decide) (by omega) (fun c37 => ?_) (fun c37 => ?_)
      · skip
        refine k_ic (x := 2) hx hb dX4_resync_75 (by decide) ?_
        refine lv_goto (tgt := 80) hx hb dX4_resync_76 (by decide) ?_
        refine kV_i (r := nI 1) (w2 := wM g a (w3 s 9 0 0 2)) (As := [.int (nI 2)]) (b := a 0) (rest := []) (A1 := A) hfx (c_X4_throwsIt l (n := n) hA (s := s) (c := 2) (by decide)) (cwV 1 hts gX4_resync_X4_throwsIt rfl rfl rfl (by decide +kernel) ⟨by decide, by decide⟩) (va_recv hC.1 hP (ci := 4) rfl (wM_obj)) hC hP hS (fun _ h => h) rfl hl.1 rfl (Nat.le_of_ble_eq_true rfl) dX4_resync_80 ⟨Nat.le_of_ble_eq_true rfl, Nat.le_of_ble_eq_true rfl⟩ (fun H locs hP hS _ _ => ?_)
        refine k_if_eq (tgt := 88) hx hb dX4_resync_83 (by decide) (by omega) (fun c83 => ?_) (fun c83 => ?_)
        · exfalso; omega
        · skip
          refine k_ic (x := 0) hx hb dX4_resync_86 (by decide) ?_
          exact k_iret hx hb hr hlk (by rfl) hP hS dX4_resync_87
      · exfalso; omega
    · exfalso; omega
set_option maxHeartbeats 4000000 in
set_option maxRecDepth 100000 in
/-- resync -/
theorem c_X4_resync (l : Launch) {g : GG} {a : Nat → Nat} {n : Nat} {A : Nat → Prop} (hA : Ap A a 8) {s : CS} (hm : Mh n s) {p nd : Nat} (hnd : nd < n) (hp : p < s 1 0 0) (hpe : s 0 0 p = nd) (hu : ∀ k, k < s 1 0 0 → k ≠ p → s 0 0 k ≠ nd) (hok : s 2 0 nd = 0 ∧ p + 1 ≠ s 1 0 0 ∧ s 2 0 (s 0 0 (p + 1)) = 0 ∧ s 3 0 nd = 0) (hle : s 4 0 (s 0 0 (p + 1)) ≤ s 4 0 nd) : Met l yX4_resync wsX4_resync ({ frames := 1, cells := 0, slots := 0, locals := 23 }) (pC g [.ref (a 0), .int (nI nd)] (wM g a s)) (qI g (nI (s 4 0 nd - s 4 0 (s 0 0 (p + 1)))) (wM g a (w3 (w3 s 9 0 0 0) 3 0 nd 1)) A) 0 0 A := by
  refine k_start (cc := cX4_resync) (maxL := 3) (ret := (some .int)) (by decide) rfl (Nat.le_of_ble_eq_true rfl) ?_
  intro pr en s0 m args below meth cd hx hb hml hr hlk hts hown hin hC hP ls hl
  have hS : va_S A s0.heap s0.heap [] := va_S.rf
  have hfx : CallFix pr m cd cX4_resync 3 s0 args wsX4_resync RX4 := ⟨hx, hb, hml, hown, hts⟩
  have hu4 : ∀ w ∈ wsX40, w.before args s0 = true := fun w h => hts w ((by decide +kernel : ∀ w ∈ wsX40, w ∈ wsX4_resync) w h)
  have hl : lv_has ls 3 [(0, .ref (a 0)), (1, .int (nI nd))] := hl
  have m0 := hm.1
  have m1 := hm.2.1
  have f2 := hm.ch (p + 1) (by omega)
  refine lv_aload_n hx hb dX4_resync_0 rfl (lv_at hl 0 rfl) ?_
  refine lv_iload_n hx hb dX4_resync_1 rfl (lv_at hl 1 rfl) ?_
  refine kV_i (r := nI 1) (w2 := wM g a s) (As := [.int (nI nd)]) (b := a 0) (rest := []) (A1 := A) hfx (c_X4_isNode l hA (s := s) (hm) (j := nd) (by omega)) (cwV 1 hts gX4_resync_X4_isNode rfl rfl rfl (by decide +kernel) ⟨by decide, by decide⟩) (va_recv hC.1 hP (ci := 4) rfl (wM_obj)) hC hP hS (fun _ h => h) rfl hl.1 rfl (Nat.le_of_ble_eq_true rfl) dX4_resync_2 ⟨Nat.le_of_ble_eq_true rfl, Nat.le_of_ble_eq_true rfl⟩ (fun H locs hP hS _ _ => ?_)
  refine k_if_eq (tgt := 16) hx hb dX4_resync_5 (by decide) (by omega) (fun c5 => ?_) (fun c5 => ?_)
  · exfalso; omega
  · skip
    refine lv_aload_n hx hb dX4_resync_8 rfl (lv_at hl 0 rfl) ?_
    refine lv_iload_n hx hb dX4_resync_9 rfl (lv_at hl 1 rfl) ?_
    refine kV_i (r := nI p) (w2 := wM g a s) (As := [.int (nI nd)]) (b := a 0) (rest := []) (A1 := A) hfx (c_X4_placeOf l hA (s := s) (hm) (nd := nd) (p := p) (by omega) (hp) (hpe) (hu)) (cwV 1 hts gX4_resync_X4_placeOf rfl rfl rfl (by decide +kernel) ⟨by decide, by decide⟩) (va_recv hC.1 hP (ci := 4) rfl (wM_obj)) hC hP hS (fun _ h => h) rfl hl.1 rfl (Nat.le_of_ble_eq_true rfl) dX4_resync_10 ⟨Nat.le_of_ble_eq_true rfl, Nat.le_of_ble_eq_true rfl⟩ (fun H locs hP hS _ _ => ?_)
    refine lv_goto (tgt := 17) hx hb dX4_resync_13 (by decide) ?_
    refine lv_istore_n (lv' := [(2, .int (nI p)), (0, .ref (a 0)), (1, .int (nI nd))]) hx hb dX4_resync_17 rfl hl (by decide) rfl (fun ls hl => ?_)
    refine lv_aload_n hx hb dX4_resync_18 rfl (lv_at hl 1 rfl) ?_
    refine lv_aload_n hx hb dX4_resync_19 rfl (lv_at hl 1 rfl) ?_
    refine lv_iload_n hx hb dX4_resync_20 rfl (lv_at hl 2 rfl) ?_
    refine kV_i (r := nI 1) (w2 := wM g a s) (As := [.int (nI nd)]) (b := a 0) (rest := [.ref (a 0)]) (A1 := A) hfx (c_X4_isNode l hA (s := s) (hm) (j := nd) (by omega)) (cwV 1 hts gX4_resync_X4_isNode rfl rfl rfl (by decide +kernel) ⟨by decide, by decide⟩) (va_recv hC.1 hP (ci := 4) rfl (wM_obj)) hC hP hS (fun _ h => h) rfl hl.1 rfl (Nat.le_of_ble_eq_true rfl) dX4_resync_21 ⟨Nat.le_of_ble_eq_true rfl, Nat.le_of_ble_eq_true rfl⟩ (fun H locs hP hS _ _ => ?_)
    refine k_if_ne (tgt := 31) hx hb dX4_resync_24 (by decide) (by omega) (fun c24 => ?_) (fun c24 => ?_)
    · skip
      refine lv_aload_n hx hb dX4_resync_31 rfl (lv_at hl 1 rfl) ?_
      refine va_get (D := g.1) (C := RX4) (T := TX4) (N := 11) (ci := 4) hx hb hu4 (fun _ h => h) hown hC.1 hP _ (wM_obj) rfl 4 (by decide) (hts (.fieldLink RX4 13 "SplicedChainModel" "failed" "[Z") (by decide +kernel)) (fun _ h9 => h9) rfl dX4_resync_32 ?_
      refine lv_iload_n hx hb dX4_resync_35 rfl (lv_at hl 2 rfl) ?_
      refine k_zald hx hb hC hP _ (wM_failed) (j := nd) (by omega) (by omega) dX4_resync_36 ?_
      refine k_if_ne (tgt := 75) hx hb dX4_resync_37 (by decide) (by omega) (fun c37 => ?_) (fun c37 => ?_)
      · exfalso; omega
      · skip
        refine lv_iload_n hx hb dX4_resync_40 rfl (lv_at hl 0 rfl) ?_
        refine lv_aload_n hx hb dX4_resync_41 rfl (lv_at hl 1 rfl) ?_
        refine va_get (D := g.1) (C := RX4) (T := TX4) (N := 11) (ci := 4) hx hb hu4 (fun _ h => h) hown hC.1 hP _ (wM_obj) rfl 2 (by decide) (hts (.fieldLink RX4 36 "SplicedChainModel" "size" "I") (by decide +kernel)) (fun _ h9 => h9) rfl dX4_resync_42 ?_
        refine k_ic (x := 1) hx hb dX4_resync_45 (by decide) ?_
        refine k_isub (x := s 1 0 0) (y := 1) hx hb (by omega) dX4_resync_46 ?_
        refine k_icmp_eq (tgt := 75) hx hb dX4_resync_47 (by decide) (by omega) (by omega) (fun c47 => ?_) (fun c47 => ?_)
        · exfalso; omega
        · skip
          refine lv_aload_n hx hb dX4_resync_50 rfl (lv_at hl 1 rfl) ?_
          refine va_get (D := g.1) (C := RX4) (T := TX4) (N := 11) (ci := 4) hx hb hu4 (fun _ h => h) hown hC.1 hP _ (wM_obj) rfl 4 (by decide) (hts (.fieldLink RX4 13 "SplicedChainModel" "failed" "[Z") (by decide +kernel)) (fun _ h9 => h9) rfl dX4_resync_51 ?_
          refine lv_aload_n hx hb dX4_resync_54 rfl (lv_at hl 1 rfl) ?_
          refine va_get (D := g.1) (C := RX4) (T := TX4) (N := 11) (ci := 4) hx hb hu4 (fun _ h => h) hown hC.1 hP _ (wM_obj) rfl 3 (by decide) (hts (.fieldLink RX4 7 "SplicedChainModel" "chain" "[I") (by decide +kernel)) (fun _ h9 => h9) rfl dX4_resync_55 ?_
          refine lv_iload_n hx hb dX4_resync_58 rfl (lv_at hl 0 rfl) ?_
          refine k_ic (x := 1) hx hb dX4_resync_59 (by decide) ?_
          refine k_iadd (x := p) (y := 1) hx hb dX4_resync_60 ?_
          refine k_iald hx hb hC hP _ (wM_chain) (j := p + 1) (by omega) (by omega) dX4_resync_61 ?_
          refine k_zald hx hb hC hP _ (wM_failed) (j := s 0 0 (p + 1)) (by omega) (by omega) dX4_resync_62 ?_
          refine k_if_ne (tgt := 75) hx hb dX4_resync_63 (by decide) (by omega) (fun c63 => ?_) (fun c63 => ?_)
          · exfalso; omega
          · skip
            refine lv_aload_n hx hb dX4_resync_66 rfl (lv_at hl 1 rfl) ?_
            refine va_get (D := g.1) (C := RX4) (T := TX4) (N := 11) (ci := 4) hx hb hu4 (fun _ h => h) hown hC.1 hP _ (wM_obj) rfl 5 (by decide) (hts (.fieldLink RX4 17 "SplicedChainModel" "open" "[Z") (by decide +kernel)) (fun _ h9 => h9) rfl dX4_resync_67 ?_
            refine lv_iload_n hx hb dX4_resync_70 rfl (lv_at hl 2 rfl) ?_
            refine k_zald hx hb hC hP _ (wM_open) (j := nd) (by omega) (by omega) dX4_resync_71 ?_
            refine k_if_eq (tgt := 79) hx hb dX4_resync_72 (by decide) (by omega) (fun c72 => ?_) (fun c72 => ?_)
            · skip
              refine k_ic (x := 0) hx hb dX4_resync_79 (by decide) ?_
              refine kV_i (r := nI 0) (w2 := wM g a (w3 s 9 0 0 0)) (As := [.int (nI 0)]) (b := a 0) (rest := []) (A1 := A) hfx (c_X4_throwsIt_0 l (n := n) hA (s := s)) (cwV 1 hts gX4_resync_X4_throwsIt rfl rfl rfl (by decide +kernel) ⟨by decide, by decide⟩) (va_recv hC.1 hP (ci := 4) rfl (wM_obj)) hC hP hS (fun _ h => h) rfl hl.1 rfl (Nat.le_of_ble_eq_true rfl) dX4_resync_80 ⟨Nat.le_of_ble_eq_true rfl, Nat.le_of_ble_eq_true rfl⟩ (fun H locs hP hS _ _ => ?_)
              refine k_if_eq (tgt := 88) hx hb dX4_resync_83 (by decide) (by omega) (fun c83 => ?_) (fun c83 => ?_)
              · skip
                refine lv_aload_n hx hb dX4_resync_88 rfl (lv_at hl 1 rfl) ?_
                refine va_get (D := g.1) (C := RX4) (T := TX4) (N := 11) (ci := 4) hx hb hu4 (fun _ h => h) hown hC.1 hP _ (wM_obj) rfl 5 (by decide) (hts (.fieldLink RX4 17 "SplicedChainModel" "open" "[Z") (by decide +kernel)) (fun _ h9 => h9) rfl dX4_resync_89 ?_
                refine lv_iload_n hx hb dX4_resync_92 rfl (lv_at hl 2 rfl) ?_
                refine k_ic (x := 1) hx hb dX4_resync_93 (by decide) ?_
                refine k_zast hx hb hC hP hA.M hS _ (wM_open) (j := nd) (by omega) (by omega) (by decide) dX4_resync_94 wpM_open (fun H locs hP hS => ?_)
                refine lv_aload_n hx hb dX4_resync_95 rfl (lv_at hl 1 rfl) ?_
                refine va_get (D := g.1) (C := RX4) (T := TX4) (N := 11) (ci := 4) hx hb hu4 (fun _ h => h) hown hC.1 hP _ (wM_obj) rfl 6 (by decide) (hts (.fieldLink RX4 20 "SplicedChainModel" "history" "[I") (by decide +kernel)) (fun _ h9 => h9) rfl dX4_resync_96 ?_
                refine lv_iload_n hx hb dX4_resync_99 rfl (lv_at hl 2 rfl) ?_
                refine k_iald hx hb hC hP _ (wM_history) (j := nd) (by omega) (by omega) dX4_resync_100 ?_
                refine k_as (x := s 4 0 nd) (by simp [w3]) ?_
                refine lv_aload_n hx hb dX4_resync_101 rfl (lv_at hl 1 rfl) ?_
                refine va_get (D := g.1) (C := RX4) (T := TX4) (N := 11) (ci := 4) hx hb hu4 (fun _ h => h) hown hC.1 hP _ (wM_obj) rfl 6 (by decide) (hts (.fieldLink RX4 20 "SplicedChainModel" "history" "[I") (by decide +kernel)) (fun _ h9 => h9) rfl dX4_resync_102 ?_
                refine lv_aload_n hx hb dX4_resync_105 rfl (lv_at hl 1 rfl) ?_
                refine va_get (D := g.1) (C := RX4) (T := TX4) (N := 11) (ci := 4) hx hb hu4 (fun _ h => h) hown hC.1 hP _ (wM_obj) rfl 3 (by decide) (hts (.fieldLink RX4 7 "SplicedChainModel" "chain" "[I") (by decide +kernel)) (fun _ h9 => h9) rfl dX4_resync_106 ?_
                refine lv_iload_n hx hb dX4_resync_109 rfl (lv_at hl 0 rfl) ?_
                refine k_ic (x := 1) hx hb dX4_resync_110 (by decide) ?_
                refine k_iadd (x := p) (y := 1) hx hb dX4_resync_111 ?_
                refine k_iald hx hb hC hP _ (wM_chain) (j := p + 1) (by omega) (by omega) dX4_resync_112 ?_
                refine k_as (x := s 0 0 (p + 1)) (by simp [w3]) ?_
                refine k_iald hx hb hC hP _ (wM_history) (j := s 0 0 (p + 1)) (by omega) (by omega) dX4_resync_113 ?_
                refine k_as (x := s 4 0 (s 0 0 (p + 1))) (by simp [w3]) ?_
                refine k_isub (x := s 4 0 nd) (y := s 4 0 (s 0 0 (p + 1))) hx hb (by omega) dX4_resync_114 ?_
                exact k_iret hx hb hr hlk (by rfl) hP hS dX4_resync_115
              · exfalso; omega
            · exfalso; omega
    · exfalso; omega
set_option maxHeartbeats 4000000 in
set_option maxRecDepth 100000 in
/-- replied -/
theorem c_X4_replied (l : Launch) {g : GG} {a : Nat → Nat} {n : Nat} {A : Nat → Prop} (hA : Ap A a 8) {s : CS} {x : Int32}  : Met l yX4_replied wsX4_replied ({ frames := 0, cells := 0, slots := 0, locals := 0 }) (pC g [.ref (a 0), .int (x)] (wM g a s)) (qI g (nI (if 1 ≤ x ∧ x ≤ nI (s 8 0 0) then 1 else 0)) (wM g a (w3 s 9 0 0 0)) A) 0 0 A := by
  refine k_start (cc := cX4_replied) (maxL := 2) (ret := (some .boolean)) (by decide) rfl (Nat.le_of_ble_eq_true rfl) ?_
  intro pr en s0 m args below meth cd hx hb hml hr hlk hts hown hin hC hP ls hl
  have hS : va_S A s0.heap s0.heap [] := va_S.rf
  have hfx : CallFix pr m cd cX4_replied 2 s0 args wsX4_replied RX4 := ⟨hx, hb, hml, hown, hts⟩
  have hu4 : ∀ w ∈ wsX40, w.before args s0 = true := fun w h => hts w ((by decide +kernel : ∀ w ∈ wsX40, w ∈ wsX4_replied) w h)
  have hl : lv_has ls 2 [(0, .ref (a 0)), (1, .int (x))] := hl
  refine lv_aload_n hx hb dX4_replied_0 rfl (lv_at hl 0 rfl) ?_
  refine k_ic (x := 0) hx hb dX4_replied_1 (by decide) ?_
  refine va_put (D := g.1) (v := .int (nI 0)) (ty := .int) (C := RX4) (T := TX4) (N := 11) (ci := 4) hx hb hu4 (fun _ h => h) tyX4 tyX4_ok nmX4 hown hC.1 hP hA.M hS _ (wM_obj) rfl 1 (by decide) (hts (.fieldLink RX4 39 "SplicedChainModel" "thrown" "I") (by decide +kernel)) (fun _ h9 => h9) rfl (by decide +kernel) rfl rfl (Nat.le_of_ble_eq_true rfl) dX4_replied_2 (fun H locs hP _ hS => ?_)
  have hP : va_P g.1 vwCl (wM g a (w3 s 9 0 0 0)) H := P_eq wpM_thrown hP
  refine lv_iload_n hx hb dX4_replied_5 rfl (lv_at hl 1 rfl) ?_
  refine k_ic (x := 1) hx hb dX4_replied_6 (by decide) ?_
  refine lv_icmp_lt (tgt := 22) hx hb dX4_replied_7 (by decide) (fun c7 => ?_) (fun c7 => ?_)
  · skip
    have f1 : ¬ (1 ≤ x ∧ x ≤ nI (s 8 0 0)) := fun q => absurd q.1 (Int32.not_le.mpr c7)
    refine k_ic (x := 0) hx hb dX4_replied_22 (by decide) ?_
    exact k_zret hx hb hr hlk (by first | rw [if_pos f1] | rw [if_neg f1]) (by decide) hP hS dX4_replied_23
  · skip
    refine lv_iload_n hx hb dX4_replied_10 rfl (lv_at hl 1 rfl) ?_
    refine lv_aload_n hx hb dX4_replied_11 rfl (lv_at hl 0 rfl) ?_
    refine va_get (D := g.1) (C := RX4) (T := TX4) (N := 11) (ci := 4) hx hb hu4 (fun _ h => h) hown hC.1 hP _ (wM_obj) rfl 10 (by decide) (hts (.fieldLink RX4 50 "SplicedChainModel" "replies" "I") (by decide +kernel)) (fun _ h9 => h9) rfl dX4_replied_12 ?_
    refine k_as (x := s 8 0 0) (by simp [w3]) ?_
    refine lv_icmp_gt (tgt := 22) hx hb dX4_replied_15 (by decide) (fun c15 => ?_) (fun c15 => ?_)
    · skip
      have f1 : ¬ (1 ≤ x ∧ x ≤ nI (s 8 0 0)) := fun q => absurd q.2 (Int32.not_le.mpr c15)
      refine k_ic (x := 0) hx hb dX4_replied_22 (by decide) ?_
      exact k_zret hx hb hr hlk (by first | rw [if_pos f1] | rw [if_neg f1]) (by decide) hP hS dX4_replied_23
    · skip
      have f1 : 1 ≤ x ∧ x ≤ nI (s 8 0 0) := ⟨Int32.not_lt.mp c7, Int32.not_lt.mp c15⟩
      refine k_ic (x := 1) hx hb dX4_replied_18 (by decide) ?_
      refine lv_goto (tgt := 23) hx hb dX4_replied_19 (by decide) ?_
      exact k_zret hx hb hr hlk (by first | rw [if_pos f1] | rw [if_neg f1]) (by decide) hP hS dX4_replied_23
set_option maxHeartbeats 4000000 in
set_option maxRecDepth 100000 in
/-- head -/
theorem c_X4_head (l : Launch) {g : GG} {a : Nat → Nat} {n : Nat} {A : Nat → Prop} (hA : Ap A a 8) {s : CS}   : Met l yX4_head wsX4_head ({ frames := 1, cells := 0, slots := 0, locals := 20 }) (pC g [.ref (a 0)] (wM g a s)) (qI g (nI (s 0 0 0)) (wM g a (w3 s 9 0 0 0)) A) 0 0 A := by
  refine k_start (cc := cX4_head) (maxL := 1) (ret := (some .int)) (by decide) rfl (Nat.le_of_ble_eq_true rfl) ?_
  intro pr en s0 m args below meth cd hx hb hml hr hlk hts hown hin hC hP ls hl
  have hS : va_S A s0.heap s0.heap [] := va_S.rf
  have hfx : CallFix pr m cd cX4_head 1 s0 args wsX4_head RX4 := ⟨hx, hb, hml, hown, hts⟩
  have hu4 : ∀ w ∈ wsX40, w.before args s0 = true := fun w h => hts w ((by decide +kernel : ∀ w ∈ wsX40, w ∈ wsX4_head) w h)
  have hl : lv_has ls 1 [(0, .ref (a 0))] := hl
  refine lv_aload_n hx hb dX4_head_0 rfl (lv_at hl 0 rfl) ?_
  refine k_ic (x := 0) hx hb dX4_head_1 (by decide) ?_
  refine va_put (D := g.1) (v := .int (nI 0)) (ty := .int) (C := RX4) (T := TX4) (N := 11) (ci := 4) hx hb hu4 (fun _ h => h) tyX4 tyX4_ok nmX4 hown hC.1 hP hA.M hS _ (wM_obj) rfl 1 (by decide) (hts (.fieldLink RX4 39 "SplicedChainModel" "thrown" "I") (by decide +kernel)) (fun _ h9 => h9) rfl (by decide +kernel) rfl rfl (Nat.le_of_ble_eq_true rfl) dX4_head_2 (fun H locs hP _ hS => ?_)
  have hP : va_P g.1 vwCl (wM g a (w3 s 9 0 0 0)) H := P_eq wpM_thrown hP
  refine lv_aload_n hx hb dX4_head_5 rfl (lv_at hl 0 rfl) ?_
  refine kV_i (r := nI (s 0 0 0)) (w2 := wM g a (w3 s 9 0 0 0)) (As := []) (b := a 0) (rest := []) (A1 := A) hfx (c_X4_first l (n := n) hA (s := (w3 s 9 0 0 0)) (x := s 0 0 0) (by simp [w3])) (cwV 0 hts gX4_head_X4_first rfl rfl rfl (by decide +kernel) ⟨by decide, by decide⟩) (va_recv hC.1 hP (ci := 4) rfl (wM_obj)) hC hP hS (fun _ h => h) rfl hl.1 rfl (Nat.le_of_ble_eq_true rfl) dX4_head_6 ⟨Nat.le_of_ble_eq_true rfl, Nat.le_of_ble_eq_true rfl⟩ (fun H locs hP hS _ _ => ?_)
  exact k_iret hx hb hr hlk (by rfl) hP hS dX4_head_9
set_option maxHeartbeats 4000000 in
set_option maxRecDepth 100000 in
/-- tail -/
theorem c_X4_tail (l : Launch) {g : GG} {a : Nat → Nat} {n : Nat} {A : Nat → Prop} (hA : Ap A a 8) {s : CS} (hm : Mh n s)   : Met l yX4_tail wsX4_tail ({ frames := 1, cells := 0, slots := 0, locals := 20 }) (pC g [.ref (a 0)] (wM g a s)) (qI g (nI (s 0 0 (s 1 0 0 - 1))) (wM g a (w3 s 9 0 0 0)) A) 0 0 A := by
  refine k_start (cc := cX4_tail) (maxL := 1) (ret := (some .int)) (by decide) rfl (Nat.le_of_ble_eq_true rfl) ?_
  intro pr en s0 m args below meth cd hx hb hml hr hlk hts hown hin hC hP ls hl
  have hS : va_S A s0.heap s0.heap [] := va_S.rf
  have hfx : CallFix pr m cd cX4_tail 1 s0 args wsX4_tail RX4 := ⟨hx, hb, hml, hown, hts⟩
  have hu4 : ∀ w ∈ wsX40, w.before args s0 = true := fun w h => hts w ((by decide +kernel : ∀ w ∈ wsX40, w ∈ wsX4_tail) w h)
  have hl : lv_has ls 1 [(0, .ref (a 0))] := hl
  have m0 := hm.1
  have m1 := hm.2.1
  refine lv_aload_n hx hb dX4_tail_0 rfl (lv_at hl 0 rfl) ?_
  refine k_ic (x := 0) hx hb dX4_tail_1 (by decide) ?_
  refine va_put (D := g.1) (v := .int (nI 0)) (ty := .int) (C := RX4) (T := TX4) (N := 11) (ci := 4) hx hb hu4 (fun _ h => h) tyX4 tyX4_ok nmX4 hown hC.1 hP hA.M hS _ (wM_obj) rfl 1 (by decide) (hts (.fieldLink RX4 39 "SplicedChainModel" "thrown" "I") (by decide +kernel)) (fun _ h9 => h9) rfl (by decide +kernel) rfl rfl (Nat.le_of_ble_eq_true rfl) dX4_tail_2 (fun H locs hP _ hS => ?_)
  have hP : va_P g.1 vwCl (wM g a (w3 s 9 0 0 0)) H := P_eq wpM_thrown hP
  refine lv_aload_n hx hb dX4_tail_5 rfl (lv_at hl 0 rfl) ?_
  refine kV_i (r := nI (s 0 0 (s 1 0 0 - 1))) (w2 := wM g a (w3 s 9 0 0 0)) (As := []) (b := a 0) (rest := []) (A1 := A) hfx (c_X4_last l (n := n) hA (s := (w3 s 9 0 0 0)) (L := s 1 0 0) (x := s 0 0 (s 1 0 0 - 1)) (by simp [w3]) (by simp [w3]) (by omega)) (cwV 0 hts gX4_tail_X4_last rfl rfl rfl (by decide +kernel) ⟨by decide, by decide⟩) (va_recv hC.1 hP (ci := 4) rfl (wM_obj)) hC hP hS (fun _ h => h) rfl hl.1 rfl (Nat.le_of_ble_eq_true rfl) dX4_tail_6 ⟨Nat.le_of_ble_eq_true rfl, Nat.le_of_ble_eq_true rfl⟩ (fun H locs hP hS _ _ => ?_)
  exact k_iret hx hb hr hlk (by rfl) hP hS dX4_tail_9
set_option maxHeartbeats 4000000 in
set_option maxRecDepth 100000 in
/-- valueAt -/
theorem c_X4_valueAt (l : Launch) {g : GG} {a : Nat → Nat} {n : Nat} {A : Nat → Prop} (hA : Ap A a 8) {s : CS} (hm : Mh n s) {nd j : Nat} (hnd : nd < n) (hj : j < 8) : Met l yX4_valueAt wsX4_valueAt ({ frames := 1, cells := 0, slots := 0, locals := 24 }) (pC g [.ref (a 0), .int (nI nd), .int (nI j)] (wM g a s)) (qI g (nI (valF (w3 s 9 0 0 0) nd j (s 4 0 nd))) (wM g a (w3 s 9 0 0 0)) A) 0 0 A := by
  refine k_start (cc := cX4_valueAt) (maxL := 3) (ret := (some .int)) (by decide) rfl (Nat.le_of_ble_eq_true rfl) ?_
  intro pr en s0 m args below meth cd hx hb hml hr hlk hts hown hin hC hP ls hl
  have hS : va_S A s0.heap s0.heap [] := va_S.rf
  have hfx : CallFix pr m cd cX4_valueAt 3 s0 args wsX4_valueAt RX4 := ⟨hx, hb, hml, hown, hts⟩
  have hu4 : ∀ w ∈ wsX40, w.before args s0 = true := fun w h => hts w ((by decide +kernel : ∀ w ∈ wsX40, w ∈ wsX4_valueAt) w h)
  have hl : lv_has ls 3 [(0, .ref (a 0)), (1, .int (nI nd)), (2, .int (nI j))] := hl
  have m0 := hm.1
  have m1 := hm.2.1
  refine lv_aload_n hx hb dX4_valueAt_0 rfl (lv_at hl 0 rfl) ?_
  refine lv_aload_n hx hb dX4_valueAt_1 rfl (lv_at hl 0 rfl) ?_
  refine lv_iload_n hx hb dX4_valueAt_2 rfl (lv_at hl 1 rfl) ?_
  refine kV_i (r := nI 1) (w2 := wM g a s) (As := [.int (nI nd)]) (b := a 0) (rest := [.ref (a 0)]) (A1 := A) hfx (c_X4_isNode l hA (s := s) (hm) (j := nd) (by omega)) (cwV 1 hts gX4_valueAt_X4_isNode rfl rfl rfl (by decide +kernel) ⟨by decide, by decide⟩) (va_recv hC.1 hP (ci := 4) rfl (wM_obj)) hC hP hS (fun _ h => h) rfl hl.1 rfl (Nat.le_of_ble_eq_true rfl) dX4_valueAt_3 ⟨Nat.le_of_ble_eq_true rfl, Nat.le_of_ble_eq_true rfl⟩ (fun H locs hP hS _ _ => ?_)
  refine k_if_eq (tgt := 23) hx hb dX4_valueAt_6 (by decide) (by omega) (fun c6 => ?_) (fun c6 => ?_)
  · exfalso; omega
  · skip
    refine lv_iload_n hx hb dX4_valueAt_9 rfl (lv_at hl 2 rfl) ?_
    refine lv_if_lt (tgt := 23) hx hb dX4_valueAt_10 (by decide) (fun c10 => ?_) (fun c10 => ?_)
    · exact absurd c10 (nI_pos (by omega))
    · skip
      refine lv_iload_n hx hb dX4_valueAt_13 rfl (lv_at hl 2 rfl) ?_
      refine k_bi (x := 7) hx hb dX4_valueAt_14 (by decide) ?_
      refine k_icmp_gt (tgt := 23) hx hb dX4_valueAt_16 (by decide) (by omega) (by omega) (fun c16 => ?_) (fun c16 => ?_)
      · exfalso; omega
      · skip
        refine k_ic (x := 0) hx hb dX4_valueAt_19 (by decide) ?_
        refine lv_goto (tgt := 24) hx hb dX4_valueAt_20 (by decide) ?_
        refine kV_i (r := nI 0) (w2 := wM g a (w3 s 9 0 0 0)) (As := [.int (nI 0)]) (b := a 0) (rest := []) (A1 := A) hfx (c_X4_throwsIt_0 l (n := n) hA (s := s)) (cwV 1 hts gX4_valueAt_X4_throwsIt rfl rfl rfl (by decide +kernel) ⟨by decide, by decide⟩) (va_recv hC.1 hP (ci := 4) rfl (wM_obj)) hC hP hS (fun _ h => h) rfl hl.1 rfl (Nat.le_of_ble_eq_true rfl) dX4_valueAt_24 ⟨Nat.le_of_ble_eq_true rfl, Nat.le_of_ble_eq_true rfl⟩ (fun H locs hP hS _ _ => ?_)
        refine k_if_eq (tgt := 32) hx hb dX4_valueAt_27 (by decide) (by omega) (fun c27 => ?_) (fun c27 => ?_)
        · skip
          refine lv_aload_n hx hb dX4_valueAt_32 rfl (lv_at hl 0 rfl) ?_
          refine lv_iload_n hx hb dX4_valueAt_33 rfl (lv_at hl 1 rfl) ?_
          refine lv_iload_n hx hb dX4_valueAt_34 rfl (lv_at hl 2 rfl) ?_
          refine kV_i (r := nI (valF (w3 s 9 0 0 0) nd j ((w3 s 9 0 0 0) 4 0 nd))) (w2 := wM g a (w3 s 9 0 0 0)) (As := [.int (nI nd), .int (nI j)]) (b := a 0) (rest := []) (A1 := A) hfx (c_X4_valueOf l hA (s := (w3 s 9 0 0 0)) (hm.m9) (nd := nd) (k := j) (by omega) (by omega)) (cwV 2 hts gX4_valueAt_X4_valueOf rfl rfl rfl (by decide +kernel) ⟨by decide, by decide⟩) (va_recv hC.1 hP (ci := 4) rfl (wM_obj)) hC hP hS (fun _ h => h) rfl hl.1 rfl (Nat.le_of_ble_eq_true rfl) dX4_valueAt_35 ⟨Nat.le_of_ble_eq_true rfl, Nat.le_of_ble_eq_true rfl⟩ (fun H locs hP hS _ _ => ?_)
          exact k_iret hx hb hr hlk (by simp [w3]) hP hS dX4_valueAt_38
        · exfalso; omega
set_option maxHeartbeats 4000000 in
set_option maxRecDepth 100000 in
/-- valueAt: no node -/
theorem c_X4_valueAt_1 (l : Launch) {g : GG} {a : Nat → Nat} {n : Nat} {A : Nat → Prop} (hA : Ap A a 8) {s : CS} (hm : Mh n s) {x y : Int32} (hbad : x < 0 ∨ nI n ≤ x) : Met l yX4_valueAt wsX4_valueAt ({ frames := 1, cells := 0, slots := 0, locals := 24 }) (pC g [.ref (a 0), .int (x), .int (y)] (wM g a s)) (qI g (nI 0) (wM g a (w3 s 9 0 0 1)) A) 0 0 A := by
  refine k_start (cc := cX4_valueAt) (maxL := 3) (ret := (some .int)) (by decide) rfl (Nat.le_of_ble_eq_true rfl) ?_
  intro pr en s0 m args below meth cd hx hb hml hr hlk hts hown hin hC hP ls hl
  have hS : va_S A s0.heap s0.heap [] := va_S.rf
  have hfx : CallFix pr m cd cX4_valueAt 3 s0 args wsX4_valueAt RX4 := ⟨hx, hb, hml, hown, hts⟩
  have hu4 : ∀ w ∈ wsX40, w.before args s0 = true := fun w h => hts w ((by decide +kernel : ∀ w ∈ wsX40, w ∈ wsX4_valueAt) w h)
  have hl : lv_has ls 3 [(0, .ref (a 0)), (1, .int (x)), (2, .int (y))] := hl
  have m0 := hm.1
  have m1 := hm.2.1
  refine lv_aload_n hx hb dX4_valueAt_0 rfl (lv_at hl 0 rfl) ?_
  refine lv_aload_n hx hb dX4_valueAt_1 rfl (lv_at hl 0 rfl) ?_
  refine lv_iload_n hx hb dX4_valueAt_2 rfl (lv_at hl 1 rfl) ?_
  refine kV_i (r := nI 0) (w2 := wM g a s) (As := [.int (x)]) (b := a 0) (rest := [.ref (a 0)]) (A1 := A) hfx (c_X4_isNode_no l hA (s := s) (hm) (x := x) hbad) (cwV 1 hts gX4_valueAt_X4_isNode rfl rfl rfl (by decide +kernel) ⟨by decide, by decide⟩) (va_recv hC.1 hP (ci := 4) rfl (wM_obj)) hC hP hS (fun _ h => h) rfl hl.1 rfl (Nat.le_of_ble_eq_true rfl) dX4_valueAt_3 ⟨Nat.le_of_ble_eq_true rfl, Nat.le_of_ble_eq_true rfl⟩ (fun H locs hP hS _ _ => ?_)
  refine k_if_eq (tgt := 23) hx hb dX4_valueAt_6 (by decide) (by omega) (fun c6 => ?_) (fun c6 => ?_)
  · skip
    refine k_ic (x := 1) hx hb dX4_valueAt_23 (by decide) ?_
    refine kV_i (r := nI 1) (w2 := wM g a (w3 s 9 0 0 1)) (As := [.int (nI 1)]) (b := a 0) (rest := []) (A1 := A) hfx (c_X4_throwsIt l (n := n) hA (s := s) (c := 1) (by decide)) (cwV 1 hts gX4_valueAt_X4_throwsIt rfl rfl rfl (by decide +kernel) ⟨by decide, by decide⟩) (va_recv hC.1 hP (ci := 4) rfl (wM_obj)) hC hP hS (fun _ h => h) rfl hl.1 rfl (Nat.le_of_ble_eq_true rfl) dX4_valueAt_24 ⟨Nat.le_of_ble_eq_true rfl, Nat.le_of_ble_eq_true rfl⟩ (fun H locs hP hS _ _ => ?_)
    refine k_if_eq (tgt := 32) hx hb dX4_valueAt_27 (by decide) (by omega) (fun c27 => ?_) (fun c27 => ?_)
    · exfalso; omega
    · skip
      refine k_ic (x := 0) hx hb dX4_valueAt_30 (by decide) ?_
      exact k_iret hx hb hr hlk (by rfl) hP hS dX4_valueAt_31
  · exfalso; omega
set_option maxHeartbeats 4000000 in
set_option maxRecDepth 100000 in
/-- valueAt: no key -/
theorem c_X4_valueAt_1k (l : Launch) {g : GG} {a : Nat → Nat} {n : Nat} {A : Nat → Prop} (hA : Ap A a 8) {s : CS} (hm : Mh n s) {nd : Nat} {x : Int32} (hnd : nd < n) (hbadk : x < 0 ∨ nI 8 ≤ x) : Met l yX4_valueAt wsX4_valueAt ({ frames := 1, cells := 0, slots := 0, locals := 24 }) (pC g [.ref (a 0), .int (nI nd), .int (x)] (wM g a s)) (qI g (nI 0) (wM g a (w3 s 9 0 0 1)) A) 0 0 A := by
  refine k_start (cc := cX4_valueAt) (maxL := 3) (ret := (some .int)) (by decide) rfl (Nat.le_of_ble_eq_true rfl) ?_
  intro pr en s0 m args below meth cd hx hb hml hr hlk hts hown hin hC hP ls hl
  have hS : va_S A s0.heap s0.heap [] := va_S.rf
  have hfx : CallFix pr m cd cX4_valueAt 3 s0 args wsX4_valueAt RX4 := ⟨hx, hb, hml, hown, hts⟩
  have hu4 : ∀ w ∈ wsX40, w.before args s0 = true := fun w h => hts w ((by decide +kernel : ∀ w ∈ wsX40, w ∈ wsX4_valueAt) w h)
  have hl : lv_has ls 3 [(0, .ref (a 0)), (1, .int (nI nd)), (2, .int (x))] := hl
  have m0 := hm.1
  have m1 := hm.2.1
  refine lv_aload_n hx hb dX4_valueAt_0 rfl (lv_at hl 0 rfl) ?_
  refine lv_aload_n hx hb dX4_valueAt_1 rfl (lv_at hl 0 rfl) ?_
  refine lv_iload_n hx hb dX4_valueAt_2 rfl (lv_at hl 1 rfl) ?_
  refine kV_i (r := nI 1) (w2 := wM g a s) (As := [.int (nI nd)]) (b := a 0) (rest := [.ref (a 0)]) (A1 := A) hfx (c_X4_isNode l hA (s := s) (hm) (j := nd) (by omega)) (cwV 1 hts gX4_valueAt_X4_isNode rfl rfl rfl (by decide +kernel) ⟨by decide, by decide⟩) (va_recv hC.1 hP (ci := 4) rfl (wM_obj)) hC hP hS (fun _ h => h) rfl hl.1 rfl (Nat.le_of_ble_eq_true rfl) dX4_valueAt_3 ⟨Nat.le_of_ble_eq_true rfl, Nat.le_of_ble_eq_true rfl⟩ (fun H locs hP hS _ _ => ?_)
  refine k_if_eq (tgt := 23) hx hb dX4_valueAt_6 (by decide) (by omega) (fun c6 => ?_) (fun c6 => ?_)
  · exfalso; omega
  · skip
    refine lv_iload_n hx hb dX4_valueAt_9 rfl (lv_at hl 2 rfl) ?_
    refine lv_if_lt (tgt := 23) hx hb dX4_valueAt_10 (by decide) (fun c10 => ?_) (fun c10 => ?_)
    · skip
      refine k_ic (x := 1) hx hb dX4_valueAt_23 (by decide) ?_
      refine kV_i (r := nI 1) (w2 := wM g a (w3 s 9 0 0 1)) (As := [.int (nI 1)]) (b := a 0) (rest := []) (A1 := A) hfx (c_X4_throwsIt l (n := n) hA (s := s) (c := 1) (by decide)) (cwV 1 hts gX4_valueAt_X4_throwsIt rfl rfl rfl (by decide +kernel) ⟨by decide, by decide⟩) (va_recv hC.1 hP (ci := 4) rfl (wM_obj)) hC hP hS (fun _ h => h) rfl hl.1 rfl (Nat.le_of_ble_eq_true rfl) dX4_valueAt_24 ⟨Nat.le_of_ble_eq_true rfl, Nat.le_of_ble_eq_true rfl⟩ (fun H locs hP hS _ _ => ?_)
      refine k_if_eq (tgt := 32) hx hb dX4_valueAt_27 (by decide) (by omega) (fun c27 => ?_) (fun c27 => ?_)
      · exfalso; omega
      · skip
        refine k_ic (x := 0) hx hb dX4_valueAt_30 (by decide) ?_
        exact k_iret hx hb hr hlk (by rfl) hP hS dX4_valueAt_31
    · skip
      refine lv_iload_n hx hb dX4_valueAt_13 rfl (lv_at hl 2 rfl) ?_
      refine k_bi (x := 7) hx hb dX4_valueAt_14 (by decide) ?_
      refine lv_icmp_gt (tgt := 23) hx hb dX4_valueAt_16 (by decide) (fun c16 => ?_) (fun c16 => ?_)
      · skip
        refine k_ic (x := 1) hx hb dX4_valueAt_23 (by decide) ?_
        refine kV_i (r := nI 1) (w2 := wM g a (w3 s 9 0 0 1)) (As := [.int (nI 1)]) (b := a 0) (rest := []) (A1 := A) hfx (c_X4_throwsIt l (n := n) hA (s := s) (c := 1) (by decide)) (cwV 1 hts gX4_valueAt_X4_throwsIt rfl rfl rfl (by decide +kernel) ⟨by decide, by decide⟩) (va_recv hC.1 hP (ci := 4) rfl (wM_obj)) hC hP hS (fun _ h => h) rfl hl.1 rfl (Nat.le_of_ble_eq_true rfl) dX4_valueAt_24 ⟨Nat.le_of_ble_eq_true rfl, Nat.le_of_ble_eq_true rfl⟩ (fun H locs hP hS _ _ => ?_)
        refine k_if_eq (tgt := 32) hx hb dX4_valueAt_27 (by decide) (by omega) (fun c27 => ?_) (fun c27 => ?_)
        · exfalso; omega
        · skip
          refine k_ic (x := 0) hx hb dX4_valueAt_30 (by decide) ?_
          exact k_iret hx hb hr hlk (by rfl) hP hS dX4_valueAt_31
      · exact absurd (Int32.not_lt.mp c16) (k78 (hbadk.resolve_left c10))
set_option maxHeartbeats 4000000 in
set_option maxRecDepth 100000 in
/-- history: no node -/
theorem c_X4_history_1 (l : Launch) {g : GG} {a : Nat → Nat} {n : Nat} {A : Nat → Prop} (hA : Ap A a 8) {s : CS} (hm : Mh n s) {x : Int32} (hbad : x < 0 ∨ nI n ≤ x) : Met l yX4_history wsX4_history ({ frames := 1, cells := 0, slots := 0, locals := 21 }) (pC g [.ref (a 0), .int (x)] (wM g a s)) (qI g (nI 0) (wM g a (w3 s 9 0 0 1)) A) 0 0 A := by
  refine k_start (cc := cX4_history) (maxL := 2) (ret := (some .int)) (by decide) rfl (Nat.le_of_ble_eq_true rfl) ?_
  intro pr en s0 m args below meth cd hx hb hml hr hlk hts hown hin hC hP ls hl
  have hS : va_S A s0.heap s0.heap [] := va_S.rf
  have hfx : CallFix pr m cd cX4_history 2 s0 args wsX4_history RX4 := ⟨hx, hb, hml, hown, hts⟩
  have hu4 : ∀ w ∈ wsX40, w.before args s0 = true := fun w h => hts w ((by decide +kernel : ∀ w ∈ wsX40, w ∈ wsX4_history) w h)
  have hl : lv_has ls 2 [(0, .ref (a 0)), (1, .int (x))] := hl
  have m0 := hm.1
  have m1 := hm.2.1
  refine lv_aload_n hx hb dX4_history_0 rfl (lv_at hl 0 rfl) ?_
  refine lv_aload_n hx hb dX4_history_1 rfl (lv_at hl 0 rfl) ?_
  refine lv_iload_n hx hb dX4_history_2 rfl (lv_at hl 1 rfl) ?_
  refine kV_i (r := nI 0) (w2 := wM g a s) (As := [.int (x)]) (b := a 0) (rest := [.ref (a 0)]) (A1 := A) hfx (c_X4_isNode_no l hA (s := s) (hm) (x := x) hbad) (cwV 1 hts gX4_history_X4_isNode rfl rfl rfl (by decide +kernel) ⟨by decide, by decide⟩) (va_recv hC.1 hP (ci := 4) rfl (wM_obj)) hC hP hS (fun _ h => h) rfl hl.1 rfl (Nat.le_of_ble_eq_true rfl) dX4_history_3 ⟨Nat.le_of_ble_eq_true rfl, Nat.le_of_ble_eq_true rfl⟩ (fun H locs hP hS _ _ => ?_)
  refine k_if_eq (tgt := 13) hx hb dX4_history_6 (by decide) (by omega) (fun c6 => ?_) (fun c6 => ?_)
  · skip
    refine k_ic (x := 1) hx hb dX4_history_13 (by decide) ?_
    refine kV_i (r := nI 1) (w2 := wM g a (w3 s 9 0 0 1)) (As := [.int (nI 1)]) (b := a 0) (rest := []) (A1 := A) hfx (c_X4_throwsIt l (n := n) hA (s := s) (c := 1) (by decide)) (cwV 1 hts gX4_history_X4_throwsIt rfl rfl rfl (by decide +kernel) ⟨by decide, by decide⟩) (va_recv hC.1 hP (ci := 4) rfl (wM_obj)) hC hP hS (fun _ h => h) rfl hl.1 rfl (Nat.le_of_ble_eq_true rfl) dX4_history_14 ⟨Nat.le_of_ble_eq_true rfl, Nat.le_of_ble_eq_true rfl⟩ (fun H locs hP hS _ _ => ?_)
    refine k_if_eq (tgt := 24) hx hb dX4_history_17 (by decide) (by omega) (fun c17 => ?_) (fun c17 => ?_)
    · exfalso; omega
    · skip
      refine k_ic (x := 0) hx hb dX4_history_20 (by decide) ?_
      refine lv_goto (tgt := 30) hx hb dX4_history_21 (by decide) ?_
      exact k_iret hx hb hr hlk (by rfl) hP hS dX4_history_30
  · exfalso; omega
set_option maxHeartbeats 4000000 in
set_option maxRecDepth 100000 in
/-- sent: no node -/
theorem c_X4_sent_1 (l : Launch) {g : GG} {a : Nat → Nat} {n : Nat} {A : Nat → Prop} (hA : Ap A a 8) {s : CS} (hm : Mh n s) {x : Int32} (hbad : x < 0 ∨ nI n ≤ x) : Met l yX4_sent wsX4_sent ({ frames := 1, cells := 0, slots := 0, locals := 21 }) (pC g [.ref (a 0), .int (x)] (wM g a s)) (qI g (nI 0) (wM g a (w3 s 9 0 0 1)) A) 0 0 A := by
  refine k_start (cc := cX4_sent) (maxL := 2) (ret := (some .int)) (by decide) rfl (Nat.le_of_ble_eq_true rfl) ?_
  intro pr en s0 m args below meth cd hx hb hml hr hlk hts hown hin hC hP ls hl
  have hS : va_S A s0.heap s0.heap [] := va_S.rf
  have hfx : CallFix pr m cd cX4_sent 2 s0 args wsX4_sent RX4 := ⟨hx, hb, hml, hown, hts⟩
  have hu4 : ∀ w ∈ wsX40, w.before args s0 = true := fun w h => hts w ((by decide +kernel : ∀ w ∈ wsX40, w ∈ wsX4_sent) w h)
  have hl : lv_has ls 2 [(0, .ref (a 0)), (1, .int (x))] := hl
  have m0 := hm.1
  have m1 := hm.2.1
  refine lv_aload_n hx hb dX4_sent_0 rfl (lv_at hl 0 rfl) ?_
  refine lv_aload_n hx hb dX4_sent_1 rfl (lv_at hl 0 rfl) ?_
  refine lv_iload_n hx hb dX4_sent_2 rfl (lv_at hl 1 rfl) ?_
  refine kV_i (r := nI 0) (w2 := wM g a s) (As := [.int (x)]) (b := a 0) (rest := [.ref (a 0)]) (A1 := A) hfx (c_X4_isNode_no l hA (s := s) (hm) (x := x) hbad) (cwV 1 hts gX4_sent_X4_isNode rfl rfl rfl (by decide +kernel) ⟨by decide, by decide⟩) (va_recv hC.1 hP (ci := 4) rfl (wM_obj)) hC hP hS (fun _ h => h) rfl hl.1 rfl (Nat.le_of_ble_eq_true rfl) dX4_sent_3 ⟨Nat.le_of_ble_eq_true rfl, Nat.le_of_ble_eq_true rfl⟩ (fun H locs hP hS _ _ => ?_)
  refine k_if_eq (tgt := 13) hx hb dX4_sent_6 (by decide) (by omega) (fun c6 => ?_) (fun c6 => ?_)
  · skip
    refine k_ic (x := 1) hx hb dX4_sent_13 (by decide) ?_
    refine kV_i (r := nI 1) (w2 := wM g a (w3 s 9 0 0 1)) (As := [.int (nI 1)]) (b := a 0) (rest := []) (A1 := A) hfx (c_X4_throwsIt l (n := n) hA (s := s) (c := 1) (by decide)) (cwV 1 hts gX4_sent_X4_throwsIt rfl rfl rfl (by decide +kernel) ⟨by decide, by decide⟩) (va_recv hC.1 hP (ci := 4) rfl (wM_obj)) hC hP hS (fun _ h => h) rfl hl.1 rfl (Nat.le_of_ble_eq_true rfl) dX4_sent_14 ⟨Nat.le_of_ble_eq_true rfl, Nat.le_of_ble_eq_true rfl⟩ (fun H locs hP hS _ _ => ?_)
    refine k_if_eq (tgt := 24) hx hb dX4_sent_17 (by decide) (by omega) (fun c17 => ?_) (fun c17 => ?_)
    · exfalso; omega
    · skip
      refine k_ic (x := 0) hx hb dX4_sent_20 (by decide) ?_
      refine lv_goto (tgt := 37) hx hb dX4_sent_21 (by decide) ?_
      exact k_iret hx hb hr hlk (by rfl) hP hS dX4_sent_37
  · exfalso; omega
set_option maxHeartbeats 4000000 in
set_option maxRecDepth 100000 in
/-- history -/
theorem c_X4_history (l : Launch) {g : GG} {a : Nat → Nat} {n : Nat} {A : Nat → Prop} (hA : Ap A a 8) {s : CS} (hm : Mh n s) {nd : Nat} (hnd : nd < n) : Met l yX4_history wsX4_history ({ frames := 1, cells := 0, slots := 0, locals := 21 }) (pC g [.ref (a 0), .int (nI nd)] (wM g a s)) (qI g (nI (s 4 0 nd)) (wM g a (w3 s 9 0 0 0)) A) 0 0 A := by
  refine k_start (cc := cX4_history) (maxL := 2) (ret := (some .int)) (by decide) rfl (Nat.le_of_ble_eq_true rfl) ?_
  intro pr en s0 m args below meth cd hx hb hml hr hlk hts hown hin hC hP ls hl
  have hS : va_S A s0.heap s0.heap [] := va_S.rf
  have hfx : CallFix pr m cd cX4_history 2 s0 args wsX4_history RX4 := ⟨hx, hb, hml, hown, hts⟩
  have hu4 : ∀ w ∈ wsX40, w.before args s0 = true := fun w h => hts w ((by decide +kernel : ∀ w ∈ wsX40, w ∈ wsX4_history) w h)
  have hl : lv_has ls 2 [(0, .ref (a 0)), (1, .int (nI nd))] := hl
  have m0 := hm.1
  have m1 := hm.2.1
  refine lv_aload_n hx hb dX4_history_0 rfl (lv_at hl 0 rfl) ?_
  refine lv_aload_n hx hb dX4_history_1 rfl (lv_at hl 0 rfl) ?_
  refine lv_iload_n hx hb dX4_history_2 rfl (lv_at hl 1 rfl) ?_
  refine kV_i (r := nI 1) (w2 := wM g a s) (As := [.int (nI nd)]) (b := a 0) (rest := [.ref (a 0)]) (A1 := A) hfx (c_X4_isNode l hA (s := s) (hm) (j := nd) (by omega)) (cwV 1 hts gX4_history_X4_isNode rfl rfl rfl (by decide +kernel) ⟨by decide, by decide⟩) (va_recv hC.1 hP (ci := 4) rfl (wM_obj)) hC hP hS (fun _ h => h) rfl hl.1 rfl (Nat.le_of_ble_eq_true rfl) dX4_history_3 ⟨Nat.le_of_ble_eq_true rfl, Nat.le_of_ble_eq_true rfl⟩ (fun H locs hP hS _ _ => ?_)
  refine k_if_eq (tgt := 13) hx hb dX4_history_6 (by decide) (by omega) (fun c6 => ?_) (fun c6 => ?_)
  · exfalso; omega
  · skip
    refine k_ic (x := 0) hx hb dX4_history_9 (by decide) ?_
    refine lv_goto (tgt := 14) hx hb dX4_history_10 (by decide) ?_
    refine kV_i (r := nI 0) (w2 := wM g a (w3 s 9 0 0 0)) (As := [.int (nI 0)]) (b := a 0) (rest := []) (A1 := A) hfx (c_X4_throwsIt_0 l (n := n) hA (s := s)) (cwV 1 hts gX4_history_X4_throwsIt rfl rfl rfl (by decide +kernel) ⟨by decide, by decide⟩) (va_recv hC.1 hP (ci := 4) rfl (wM_obj)) hC hP hS (fun _ h => h) rfl hl.1 rfl (Nat.le_of_ble_eq_true rfl) dX4_history_14 ⟨Nat.le_of_ble_eq_true rfl, Nat.le_of_ble_eq_true rfl⟩ (fun H locs hP hS _ _ => ?_)
    refine k_if_eq (tgt := 24) hx hb dX4_history_17 (by decide) (by omega) (fun c17 => ?_) (fun c17 => ?_)
    · skip
      refine lv_aload_n hx hb dX4_history_24 rfl (lv_at hl 0 rfl) ?_
      refine va_get (D := g.1) (C := RX4) (T := TX4) (N := 11) (ci := 4) hx hb hu4 (fun _ h => h) hown hC.1 hP _ (wM_obj) rfl 6 (by decide) (hts (.fieldLink RX4 20 "SplicedChainModel" "history" "[I") (by decide +kernel)) (fun _ h9 => h9) rfl dX4_history_25 ?_
      refine lv_iload_n hx hb dX4_history_28 rfl (lv_at hl 1 rfl) ?_
      refine k_iald hx hb hC hP _ (wM_history) (j := nd) (by omega) (by omega) dX4_history_29 ?_
      refine k_as (x := s 4 0 nd) (by simp [w3]) ?_
      exact k_iret hx hb hr hlk (by rfl) hP hS dX4_history_30
    · exfalso; omega
set_option maxHeartbeats 4000000 in
set_option maxRecDepth 100000 in
/-- sent -/
theorem c_X4_sent (l : Launch) {g : GG} {a : Nat → Nat} {n : Nat} {A : Nat → Prop} (hA : Ap A a 8) {s : CS} (hm : Mh n s) {nd : Nat} (hnd : nd < n) (hle : s 5 0 nd ≤ s 4 0 nd) : Met l yX4_sent wsX4_sent ({ frames := 1, cells := 0, slots := 0, locals := 21 }) (pC g [.ref (a 0), .int (nI nd)] (wM g a s)) (qI g (nI (s 4 0 nd - s 5 0 nd)) (wM g a (w3 s 9 0 0 0)) A) 0 0 A := by
  refine k_start (cc := cX4_sent) (maxL := 2) (ret := (some .int)) (by decide) rfl (Nat.le_of_ble_eq_true rfl) ?_
  intro pr en s0 m args below meth cd hx hb hml hr hlk hts hown hin hC hP ls hl
  have hS : va_S A s0.heap s0.heap [] := va_S.rf
  have hfx : CallFix pr m cd cX4_sent 2 s0 args wsX4_sent RX4 := ⟨hx, hb, hml, hown, hts⟩
  have hu4 : ∀ w ∈ wsX40, w.before args s0 = true := fun w h => hts w ((by decide +kernel : ∀ w ∈ wsX40, w ∈ wsX4_sent) w h)
  have hl : lv_has ls 2 [(0, .ref (a 0)), (1, .int (nI nd))] := hl
  have m0 := hm.1
  have m1 := hm.2.1
  refine lv_aload_n hx hb dX4_sent_0 rfl (lv_at hl 0 rfl) ?_
  refine lv_aload_n hx hb dX4_sent_1 rfl (lv_at hl 0 rfl) ?_
  refine lv_iload_n hx hb dX4_sent_2 rfl (lv_at hl 1 rfl) ?_
  refine kV_i (r := nI 1) (w2 := wM g a s) (As := [.int (nI nd)]) (b := a 0) (rest := [.ref (a 0)]) (A1 := A) hfx (c_X4_isNode l hA (s := s) (hm) (j := nd) (by omega)) (cwV 1 hts gX4_sent_X4_isNode rfl rfl rfl (by decide +kernel) ⟨by decide, by decide⟩) (va_recv hC.1 hP (ci := 4) rfl (wM_obj)) hC hP hS (fun _ h => h) rfl hl.1 rfl (Nat.le_of_ble_eq_true rfl) dX4_sent_3 ⟨Nat.le_of_ble_eq_true rfl, Nat.le_of_ble_eq_true rfl⟩ (fun H locs hP hS _ _ => ?_)
  refine k_if_eq (tgt := 13) hx hb dX4_sent_6 (by decide) (by omega) (fun c6 => ?_) (fun c6 => ?_)
  · exfalso; omega
  · skip
    refine k_ic (x := 0) hx hb dX4_sent_9 (by decide) ?_
    refine lv_goto (tgt := 14) hx hb dX4_sent_10 (by decide) ?_
    refine kV_i (r := nI 0) (w2 := wM g a (w3 s 9 0 0 0)) (As := [.int (nI 0)]) (b := a 0) (rest := []) (A1 := A) hfx (c_X4_throwsIt_0 l (n := n) hA (s := s)) (cwV 1 hts gX4_sent_X4_throwsIt rfl rfl rfl (by decide +kernel) ⟨by decide, by decide⟩) (va_recv hC.1 hP (ci := 4) rfl (wM_obj)) hC hP hS (fun _ h => h) rfl hl.1 rfl (Nat.le_of_ble_eq_true rfl) dX4_sent_14 ⟨Nat.le_of_ble_eq_true rfl, Nat.le_of_ble_eq_true rfl⟩ (fun H locs hP hS _ _ => ?_)
    refine k_if_eq (tgt := 24) hx hb dX4_sent_17 (by decide) (by omega) (fun c17 => ?_) (fun c17 => ?_)
    · skip
      refine lv_aload_n hx hb dX4_sent_24 rfl (lv_at hl 0 rfl) ?_
      refine va_get (D := g.1) (C := RX4) (T := TX4) (N := 11) (ci := 4) hx hb hu4 (fun _ h => h) hown hC.1 hP _ (wM_obj) rfl 6 (by decide) (hts (.fieldLink RX4 20 "SplicedChainModel" "history" "[I") (by decide +kernel)) (fun _ h9 => h9) rfl dX4_sent_25 ?_
      refine lv_iload_n hx hb dX4_sent_28 rfl (lv_at hl 1 rfl) ?_
      refine k_iald hx hb hC hP _ (wM_history) (j := nd) (by omega) (by omega) dX4_sent_29 ?_
      refine k_as (x := s 4 0 nd) (by simp [w3]) ?_
      refine lv_aload_n hx hb dX4_sent_30 rfl (lv_at hl 0 rfl) ?_
      refine va_get (D := g.1) (C := RX4) (T := TX4) (N := 11) (ci := 4) hx hb hu4 (fun _ h => h) hown hC.1 hP _ (wM_obj) rfl 7 (by decide) (hts (.fieldLink RX4 23 "SplicedChainModel" "acked" "[I") (by decide +kernel)) (fun _ h9 => h9) rfl dX4_sent_31 ?_
      refine lv_iload_n hx hb dX4_sent_34 rfl (lv_at hl 1 rfl) ?_
      refine k_iald hx hb hC hP _ (wM_acked) (j := nd) (by omega) (by omega) dX4_sent_35 ?_
      refine k_as (x := s 5 0 nd) (by simp [w3]) ?_
      refine k_isub (x := s 4 0 nd) (y := s 5 0 nd) hx hb (by omega) dX4_sent_36 ?_
      exact k_iret hx hb hr hlk (by rfl) hP hS dX4_sent_37
    · exfalso; omega
set_option maxHeartbeats 4000000 in
set_option maxRecDepth 100000 in
/-- waiting: no node -/
theorem c_X4_waiting_1 (l : Launch) {g : GG} {a : Nat → Nat} {n : Nat} {A : Nat → Prop} (hA : Ap A a 8) {s : CS} (hm : Mh n s) {x : Int32} (hbad : x < 0 ∨ nI n ≤ x) : Met l yX4_waiting wsX4_waiting ({ frames := 2, cells := 0, slots := 0, locals := 45 }) (pC g [.ref (a 0), .int (x)] (wM g a s)) (qI g (nI 0) (wM g a (w3 s 9 0 0 1)) A) 0 0 A := by
  refine k_start (cc := cX4_waiting) (maxL := 2) (ret := (some .int)) (by decide) rfl (Nat.le_of_ble_eq_true rfl) ?_
  intro pr en s0 m args below meth cd hx hb hml hr hlk hts hown hin hC hP ls hl
  have hS : va_S A s0.heap s0.heap [] := va_S.rf
  have hfx : CallFix pr m cd cX4_waiting 2 s0 args wsX4_waiting RX4 := ⟨hx, hb, hml, hown, hts⟩
  have hu4 : ∀ w ∈ wsX40, w.before args s0 = true := fun w h => hts w ((by decide +kernel : ∀ w ∈ wsX40, w ∈ wsX4_waiting) w h)
  have hl : lv_has ls 2 [(0, .ref (a 0)), (1, .int (x))] := hl
  have m0 := hm.1
  have m1 := hm.2.1
  refine lv_aload_n hx hb dX4_waiting_0 rfl (lv_at hl 0 rfl) ?_
  refine lv_aload_n hx hb dX4_waiting_1 rfl (lv_at hl 0 rfl) ?_
  refine lv_iload_n hx hb dX4_waiting_2 rfl (lv_at hl 1 rfl) ?_
  refine kV_i (r := nI 0) (w2 := wM g a s) (As := [.int (x)]) (b := a 0) (rest := [.ref (a 0)]) (A1 := A) hfx (c_X4_isNode_no l hA (s := s) (hm) (x := x) hbad) (cwV 1 hts gX4_waiting_X4_isNode rfl rfl rfl (by decide +kernel) ⟨by decide, by decide⟩) (va_recv hC.1 hP (ci := 4) rfl (wM_obj)) hC hP hS (fun _ h => h) rfl hl.1 rfl (Nat.le_of_ble_eq_true rfl) dX4_waiting_3 ⟨Nat.le_of_ble_eq_true rfl, Nat.le_of_ble_eq_true rfl⟩ (fun H locs hP hS _ _ => ?_)
  refine k_if_eq (tgt := 13) hx hb dX4_waiting_6 (by decide) (by omega) (fun c6 => ?_) (fun c6 => ?_)
  · skip
    refine k_ic (x := 1) hx hb dX4_waiting_13 (by decide) ?_
    refine kV_i (r := nI 1) (w2 := wM g a (w3 s 9 0 0 1)) (As := [.int (nI 1)]) (b := a 0) (rest := []) (A1 := A) hfx (c_X4_throwsIt l (n := n) hA (s := s) (c := 1) (by decide)) (cwV 1 hts gX4_waiting_X4_throwsIt rfl rfl rfl (by decide +kernel) ⟨by decide, by decide⟩) (va_recv hC.1 hP (ci := 4) rfl (wM_obj)) hC hP hS (fun _ h => h) rfl hl.1 rfl (Nat.le_of_ble_eq_true rfl) dX4_waiting_14 ⟨Nat.le_of_ble_eq_true rfl, Nat.le_of_ble_eq_true rfl⟩ (fun H locs hP hS _ _ => ?_)
    refine k_if_eq (tgt := 24) hx hb dX4_waiting_17 (by decide) (by omega) (fun c17 => ?_) (fun c17 => ?_)
    · exfalso; omega
    · skip
      refine k_ic (x := 0) hx hb dX4_waiting_20 (by decide) ?_
      refine lv_goto (tgt := 38) hx hb dX4_waiting_21 (by decide) ?_
      exact k_iret hx hb hr hlk (by rfl) hP hS dX4_waiting_38
  · exfalso; omega
set_option maxHeartbeats 4000000 in
set_option maxRecDepth 100000 in
/-- waiting -/
theorem c_X4_waiting (l : Launch) {g : GG} {a : Nat → Nat} {n : Nat} {A : Nat → Prop} (hA : Ap A a 8) {s : CS} (hm : Mh n s) {p nd U V : Nat} (hnd : nd < n) (hp : p < s 1 0 0) (hpe : s 0 0 p = nd) (hu : ∀ k, k < s 1 0 0 → k ≠ p → s 0 0 k ≠ nd) (hle : 0 < p → s 4 0 nd ≤ s 4 0 (s 0 0 (p - 1))) (hU : (if 0 < p ∧ s 3 0 (s 0 0 (p - 1)) ≠ 0 then s 4 0 (s 0 0 (p - 1)) - s 4 0 nd else 0) = U) (hla : p + 1 < s 1 0 0 → s 5 0 nd ≤ s 5 0 (s 0 0 (p + 1))) (hV : (if p + 1 < s 1 0 0 ∧ s 3 0 nd ≠ 0 then s 5 0 (s 0 0 (p + 1)) - s 5 0 nd else 0) = V) : Met l yX4_waiting wsX4_waiting ({ frames := 2, cells := 0, slots := 0, locals := 45 }) (pC g [.ref (a 0), .int (nI nd)] (wM g a s)) (qI g (nI (U + 100 * V)) (wM g a (w3 s 9 0 0 0)) A) 0 0 A := by
  refine k_start (cc := cX4_waiting) (maxL := 2) (ret := (some .int)) (by decide) rfl (Nat.le_of_ble_eq_true rfl) ?_
  intro pr en s0 m args below meth cd hx hb hml hr hlk hts hown hin hC hP ls hl
  have hS : va_S A s0.heap s0.heap [] := va_S.rf
  have hfx : CallFix pr m cd cX4_waiting 2 s0 args wsX4_waiting RX4 := ⟨hx, hb, hml, hown, hts⟩
  have hu4 : ∀ w ∈ wsX40, w.before args s0 = true := fun w h => hts w ((by decide +kernel : ∀ w ∈ wsX40, w ∈ wsX4_waiting) w h)
  have hl : lv_has ls 2 [(0, .ref (a 0)), (1, .int (nI nd))] := hl
  have m0 := hm.1
  have m1 := hm.2.1
  refine lv_aload_n hx hb dX4_waiting_0 rfl (lv_at hl 0 rfl) ?_
  refine lv_aload_n hx hb dX4_waiting_1 rfl (lv_at hl 0 rfl) ?_
  refine lv_iload_n hx hb dX4_waiting_2 rfl (lv_at hl 1 rfl) ?_
  refine kV_i (r := nI 1) (w2 := wM g a s) (As := [.int (nI nd)]) (b := a 0) (rest := [.ref (a 0)]) (A1 := A) hfx (c_X4_isNode l hA (s := s) (hm) (j := nd) (by omega)) (cwV 1 hts gX4_waiting_X4_isNode rfl rfl rfl (by decide +kernel) ⟨by decide, by decide⟩) (va_recv hC.1 hP (ci := 4) rfl (wM_obj)) hC hP hS (fun _ h => h) rfl hl.1 rfl (Nat.le_of_ble_eq_true rfl) dX4_waiting_3 ⟨Nat.le_of_ble_eq_true rfl, Nat.le_of_ble_eq_true rfl⟩ (fun H locs hP hS _ _ => ?_)
  refine k_if_eq (tgt := 13) hx hb dX4_waiting_6 (by decide) (by omega) (fun c6 => ?_) (fun c6 => ?_)
  · exfalso; omega
  · skip
    refine k_ic (x := 0) hx hb dX4_waiting_9 (by decide) ?_
    refine lv_goto (tgt := 14) hx hb dX4_waiting_10 (by decide) ?_
    refine kV_i (r := nI 0) (w2 := wM g a (w3 s 9 0 0 0)) (As := [.int (nI 0)]) (b := a 0) (rest := []) (A1 := A) hfx (c_X4_throwsIt_0 l (n := n) hA (s := s)) (cwV 1 hts gX4_waiting_X4_throwsIt rfl rfl rfl (by decide +kernel) ⟨by decide, by decide⟩) (va_recv hC.1 hP (ci := 4) rfl (wM_obj)) hC hP hS (fun _ h => h) rfl hl.1 rfl (Nat.le_of_ble_eq_true rfl) dX4_waiting_14 ⟨Nat.le_of_ble_eq_true rfl, Nat.le_of_ble_eq_true rfl⟩ (fun H locs hP hS _ _ => ?_)
    refine k_if_eq (tgt := 24) hx hb dX4_waiting_17 (by decide) (by omega) (fun c17 => ?_) (fun c17 => ?_)
    · skip
      refine lv_aload_n hx hb dX4_waiting_24 rfl (lv_at hl 0 rfl) ?_
      refine lv_iload_n hx hb dX4_waiting_25 rfl (lv_at hl 1 rfl) ?_
      refine kV_i (r := nI U) (w2 := wM g a (w3 s 9 0 0 0)) (As := [.int (nI nd)]) (b := a 0) (rest := []) (A1 := A) hfx (c_X4_updatesTo l hA (s := (w3 s 9 0 0 0)) (hm.m9) (nd := nd) (p := p) (U := U) hnd (by simp only [w3_c (show (3:Nat) ≠ 9 by decide), w3_c (show (0:Nat) ≠ 9 by decide), w3_c (show (4:Nat) ≠ 9 by decide), w3_c (show (5:Nat) ≠ 9 by decide), w3_c (show (1:Nat) ≠ 9 by decide)]; exact hp) (by simp only [w3_c (show (3:Nat) ≠ 9 by decide), w3_c (show (0:Nat) ≠ 9 by decide), w3_c (show (4:Nat) ≠ 9 by decide), w3_c (show (5:Nat) ≠ 9 by decide), w3_c (show (1:Nat) ≠ 9 by decide)]; exact hpe) (fun k hk hne => by simp only [w3_c (show (3:Nat) ≠ 9 by decide), w3_c (show (0:Nat) ≠ 9 by decide), w3_c (show (4:Nat) ≠ 9 by decide), w3_c (show (5:Nat) ≠ 9 by decide), w3_c (show (1:Nat) ≠ 9 by decide)]; exact hu k hk hne) (by simp only [w3_c (show (3:Nat) ≠ 9 by decide), w3_c (show (0:Nat) ≠ 9 by decide), w3_c (show (4:Nat) ≠ 9 by decide), w3_c (show (5:Nat) ≠ 9 by decide), w3_c (show (1:Nat) ≠ 9 by decide)]; exact hle) (by simp only [w3_c (show (3:Nat) ≠ 9 by decide), w3_c (show (0:Nat) ≠ 9 by decide), w3_c (show (4:Nat) ≠ 9 by decide), w3_c (show (5:Nat) ≠ 9 by decide), w3_c (show (1:Nat) ≠ 9 by decide)]; exact hU)) (cwV 1 hts gX4_waiting_X4_updatesTo rfl rfl rfl (by decide +kernel) ⟨by decide, by decide⟩) (va_recv hC.1 hP (ci := 4) rfl (wM_obj)) hC hP hS (fun _ h => h) rfl hl.1 rfl (Nat.le_of_ble_eq_true rfl) dX4_waiting_26 ⟨Nat.le_of_ble_eq_true rfl, Nat.le_of_ble_eq_true rfl⟩ (fun H locs hP hS _ _ => ?_)
      refine k_bi (x := 100) hx hb dX4_waiting_29 (by decide) ?_
      refine lv_aload_n hx hb dX4_waiting_31 rfl (lv_at hl 0 rfl) ?_
      refine lv_iload_n hx hb dX4_waiting_32 rfl (lv_at hl 1 rfl) ?_
      refine kV_i (r := nI V) (w2 := wM g a (w3 s 9 0 0 0)) (As := [.int (nI nd)]) (b := a 0) (rest := [.int (nI 100), .int (nI U)]) (A1 := A) hfx (c_X4_acksTo l hA (s := (w3 s 9 0 0 0)) (hm.m9) (nd := nd) (p := p) (V := V) hnd (by simp only [w3_c (show (3:Nat) ≠ 9 by decide), w3_c (show (0:Nat) ≠ 9 by decide), w3_c (show (4:Nat) ≠ 9 by decide), w3_c (show (5:Nat) ≠ 9 by decide), w3_c (show (1:Nat) ≠ 9 by decide)]; exact hp) (by simp only [w3_c (show (3:Nat) ≠ 9 by decide), w3_c (show (0:Nat) ≠ 9 by decide), w3_c (show (4:Nat) ≠ 9 by decide), w3_c (show (5:Nat) ≠ 9 by decide), w3_c (show (1:Nat) ≠ 9 by decide)]; exact hpe) (fun k hk hne => by simp only [w3_c (show (3:Nat) ≠ 9 by decide), w3_c (show (0:Nat) ≠ 9 by decide), w3_c (show (4:Nat) ≠ 9 by decide), w3_c (show (5:Nat) ≠ 9 by decide), w3_c (show (1:Nat) ≠ 9 by decide)]; exact hu k hk hne) (by simp only [w3_c (show (3:Nat) ≠ 9 by decide), w3_c (show (0:Nat) ≠ 9 by decide), w3_c (show (4:Nat) ≠ 9 by decide), w3_c (show (5:Nat) ≠ 9 by decide), w3_c (show (1:Nat) ≠ 9 by decide)]; exact hla) (by simp only [w3_c (show (3:Nat) ≠ 9 by decide), w3_c (show (0:Nat) ≠ 9 by decide), w3_c (show (4:Nat) ≠ 9 by decide), w3_c (show (5:Nat) ≠ 9 by decide), w3_c (show (1:Nat) ≠ 9 by decide)]; exact hV)) (cwV 1 hts gX4_waiting_X4_acksTo rfl rfl rfl (by decide +kernel) ⟨by decide, by decide⟩) (va_recv hC.1 hP (ci := 4) rfl (wM_obj)) hC hP hS (fun _ h => h) rfl hl.1 rfl (Nat.le_of_ble_eq_true rfl) dX4_waiting_33 ⟨Nat.le_of_ble_eq_true rfl, Nat.le_of_ble_eq_true rfl⟩ (fun H locs hP hS _ _ => ?_)
      refine k_imul (x := 100) (y := V) hx hb dX4_waiting_36 ?_
      refine k_iadd (x := U) (y := 100 * V) hx hb dX4_waiting_37 ?_
      exact k_iret hx hb hr hlk (by rfl) hP hS dX4_waiting_38
    · exfalso; omega
set_option maxHeartbeats 4000000 in
set_option maxRecDepth 100000 in
/-- waiting: out of the chain -/
theorem c_X4_waiting_o (l : Launch) {g : GG} {a : Nat → Nat} {n : Nat} {A : Nat → Prop} (hA : Ap A a 8) {s : CS} (hm : Mh n s) {nd : Nat} (hnd : nd < n) (hno : ∀ k, k < s 1 0 0 → s 0 0 k ≠ nd) : Met l yX4_waiting wsX4_waiting ({ frames := 2, cells := 0, slots := 0, locals := 45 }) (pC g [.ref (a 0), .int (nI nd)] (wM g a s)) (qI g (nI 0) (wM g a (w3 s 9 0 0 0)) A) 0 0 A := by
  refine k_start (cc := cX4_waiting) (maxL := 2) (ret := (some .int)) (by decide) rfl (Nat.le_of_ble_eq_true rfl) ?_
  intro pr en s0 m args below meth cd hx hb hml hr hlk hts hown hin hC hP ls hl
  have hS : va_S A s0.heap s0.heap [] := va_S.rf
  have hfx : CallFix pr m cd cX4_waiting 2 s0 args wsX4_waiting RX4 := ⟨hx, hb, hml, hown, hts⟩
  have hu4 : ∀ w ∈ wsX40, w.before args s0 = true := fun w h => hts w ((by decide +kernel : ∀ w ∈ wsX40, w ∈ wsX4_waiting) w h)
  have hl : lv_has ls 2 [(0, .ref (a 0)), (1, .int (nI nd))] := hl
  have m0 := hm.1
  have m1 := hm.2.1
  refine lv_aload_n hx hb dX4_waiting_0 rfl (lv_at hl 0 rfl) ?_
  refine lv_aload_n hx hb dX4_waiting_1 rfl (lv_at hl 0 rfl) ?_
  refine lv_iload_n hx hb dX4_waiting_2 rfl (lv_at hl 1 rfl) ?_
  refine kV_i (r := nI 1) (w2 := wM g a s) (As := [.int (nI nd)]) (b := a 0) (rest := [.ref (a 0)]) (A1 := A) hfx (c_X4_isNode l hA (s := s) (hm) (j := nd) (by omega)) (cwV 1 hts gX4_waiting_X4_isNode rfl rfl rfl (by decide +kernel) ⟨by decide, by decide⟩) (va_recv hC.1 hP (ci := 4) rfl (wM_obj)) hC hP hS (fun _ h => h) rfl hl.1 rfl (Nat.le_of_ble_eq_true rfl) dX4_waiting_3 ⟨Nat.le_of_ble_eq_true rfl, Nat.le_of_ble_eq_true rfl⟩ (fun H locs hP hS _ _ => ?_)
  refine k_if_eq (tgt := 13) hx hb dX4_waiting_6 (by decide) (by omega) (fun c6 => ?_) (fun c6 => ?_)
  · exfalso; omega
  · skip
    refine k_ic (x := 0) hx hb dX4_waiting_9 (by decide) ?_
    refine lv_goto (tgt := 14) hx hb dX4_waiting_10 (by decide) ?_
    refine kV_i (r := nI 0) (w2 := wM g a (w3 s 9 0 0 0)) (As := [.int (nI 0)]) (b := a 0) (rest := []) (A1 := A) hfx (c_X4_throwsIt_0 l (n := n) hA (s := s)) (cwV 1 hts gX4_waiting_X4_throwsIt rfl rfl rfl (by decide +kernel) ⟨by decide, by decide⟩) (va_recv hC.1 hP (ci := 4) rfl (wM_obj)) hC hP hS (fun _ h => h) rfl hl.1 rfl (Nat.le_of_ble_eq_true rfl) dX4_waiting_14 ⟨Nat.le_of_ble_eq_true rfl, Nat.le_of_ble_eq_true rfl⟩ (fun H locs hP hS _ _ => ?_)
    refine k_if_eq (tgt := 24) hx hb dX4_waiting_17 (by decide) (by omega) (fun c17 => ?_) (fun c17 => ?_)
    · skip
      refine lv_aload_n hx hb dX4_waiting_24 rfl (lv_at hl 0 rfl) ?_
      refine lv_iload_n hx hb dX4_waiting_25 rfl (lv_at hl 1 rfl) ?_
      refine kV_i (r := nI 0) (w2 := wM g a (w3 s 9 0 0 0)) (As := [.int (nI nd)]) (b := a 0) (rest := []) (A1 := A) hfx (c_X4_updatesTo_no l hA (s := (w3 s 9 0 0 0)) (hm.m9) (nd := nd) hnd (hno)) (cwV 1 hts gX4_waiting_X4_updatesTo rfl rfl rfl (by decide +kernel) ⟨by decide, by decide⟩) (va_recv hC.1 hP (ci := 4) rfl (wM_obj)) hC hP hS (fun _ h => h) rfl hl.1 rfl (Nat.le_of_ble_eq_true rfl) dX4_waiting_26 ⟨Nat.le_of_ble_eq_true rfl, Nat.le_of_ble_eq_true rfl⟩ (fun H locs hP hS _ _ => ?_)
      refine k_bi (x := 100) hx hb dX4_waiting_29 (by decide) ?_
      refine lv_aload_n hx hb dX4_waiting_31 rfl (lv_at hl 0 rfl) ?_
      refine lv_iload_n hx hb dX4_waiting_32 rfl (lv_at hl 1 rfl) ?_
      refine kV_i (r := nI 0) (w2 := wM g a (w3 s 9 0 0 0)) (As := [.int (nI nd)]) (b := a 0) (rest := [.int (nI 100), .int (nI 0)]) (A1 := A) hfx (c_X4_acksTo_no l hA (s := (w3 s 9 0 0 0)) (hm.m9) (nd := nd) hnd (hno)) (cwV 1 hts gX4_waiting_X4_acksTo rfl rfl rfl (by decide +kernel) ⟨by decide, by decide⟩) (va_recv hC.1 hP (ci := 4) rfl (wM_obj)) hC hP hS (fun _ h => h) rfl hl.1 rfl (Nat.le_of_ble_eq_true rfl) dX4_waiting_33 ⟨Nat.le_of_ble_eq_true rfl, Nat.le_of_ble_eq_true rfl⟩ (fun H locs hP hS _ _ => ?_)
      refine k_imul (x := 100) (y := 0) hx hb dX4_waiting_36 ?_
      refine k_iadd (x := 0) (y := 100 * 0) hx hb dX4_waiting_37 ?_
      exact k_iret hx hb hr hlk (by rfl) hP hS dX4_waiting_38
    · exfalso; omega
