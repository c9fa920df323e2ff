/-- updates or acknowledgements v + 1, .., v + j are put on a link -/
def lpN (s : CS) (i w v : Nat) : Nat → CS
  | 0 => s
  | j + 1 => lput (lpN s i w v j) i w (v + j + 1)
theorem lpN_c {s : CS} {i w v c i' k' : Nat} (h : c ≠ 10 ∧ c ≠ 11) : ∀ j, lpN s i w v j c i' k' = s c i' k'
  | 0 => rfl
  | j + 1 => by rw [lpN, lput_c h]; exact lpN_c h j
theorem Sh.lN {n : Nat} {s : CS} (h : Sh n s) {i w v : Nat} : ∀ {j : Nat}, v + j ≤ 40 → Sh n (lpN s i w v j)
  | 0, _ => h
  | j + 1, hj => (h.lN (j := j) (by omega)).lp (by omega)
def rs1 (s : CS) (x y : Nat) : CS := lpN (w3 s 8 x 0 1) x 0 (s 5 y 0) (s 5 x 0 - s 5 y 0)
def rsS (s : CS) (x y : Nat) : CS := lpN (rs1 s x y) x 1 (s 6 x 0) (s 6 y 0 - s 6 x 0)
theorem rs1_c {s : CS} {x y c i k : Nat} (h : c ≠ 10 ∧ c ≠ 11 ∧ c ≠ 8) : rs1 s x y c i k = s c i k := by
  rw [rs1, lpN_c ⟨h.1, h.2.1⟩, w3_c h.2.2]
set_option maxHeartbeats 4000000 in
set_option maxRecDepth 100000 in
/-- resync -/
theorem c_X3_resync (l : Launch) {g : GG} {a : Nat → Nat} {n : Nat} {A : Nat → Prop} (hA : Ap A a (5 + 7 * n)) (hn6 : n ≤ 6) {s : CS} {p nd : Nat} (hs : Sh n s) (hnd : nd < n) (hp : p < s 1 0 0) (hpe : s 0 0 p = nd) (hf : ∀ k, k < p → s 0 0 k ≠ nd) (hcan : p + 1 ≠ s 1 0 0 ∧ s 7 (s 0 0 p) 0 = 0 ∧ s 7 (s 0 0 (p + 1)) 0 = 0 ∧ s 8 (s 0 0 p) 0 = 0) (ha1 : s 6 (s 0 0 p) 0 ≤ s 5 (s 0 0 (p + 1)) 0) (ha2 : s 5 (s 0 0 (p + 1)) 0 ≤ s 5 (s 0 0 p) 0) (ha3 : s 6 (s 0 0 p) 0 ≤ s 6 (s 0 0 (p + 1)) 0) : Met l yX3_resync wsX3_resync ({ frames := 2, cells := 0, slots := 0, locals := 43 }) (pC g [.ref (a 0), .int (nI nd)] (wC g a n s)) (qI g (nI ((rsS s (s 0 0 p) (s 0 0 (p + 1))) 10 (2 * (s 0 0 p) + 0) 0)) (wC g a n (rsS s (s 0 0 p) (s 0 0 (p + 1)))) A) 0 0 A := by
  refine k_start (cc := cX3_resync) (maxL := 7) (ret := (some .int)) (by decide) rfl (Nat.le_of_ble_eq_true rfl) ?_
  intro pr en s0 m args below meth cd hx hb hml hr hlk hts hown hin hC hP ls hl
  have hS : va_S A s0.heap s0.heap [] := va_S.rf
  have hfx : CallFix pr m cd cX3_resync 7 s0 args wsX3_resync RX3 := ⟨hx, hb, hml, hown, hts⟩
  have hu1 : ∀ w ∈ wsX10, w.before args s0 = true := fun w h => hts w ((by decide +kernel : ∀ w ∈ wsX10, w ∈ wsX3_resync) w h)
  have hu0 : ∀ w ∈ wsX00, w.before args s0 = true := fun w h => hts w ((by decide +kernel : ∀ w ∈ wsX00, w ∈ wsX3_resync) w h)
  have hu2 : ∀ w ∈ wsX20, w.before args s0 = true := fun w h => hts w ((by decide +kernel : ∀ w ∈ wsX20, w ∈ wsX3_resync) w h)
  have hl : lv_has ls 7 [(0, .ref (a 0)), (1, .int (nI nd))] := hl
  have f0 := hs.len
  have f1 := hs.ch p (by omega)
  have f2 := hs.ch (p + 1) (by omega)
  have f3 := hs.nd _ f1
  have f4 := hs.nd _ f2
  have s1 : Sh n (w3 s 8 (s 0 0 p) 0 1) := hs.m8 (by omega)
  have s2 : Sh n (rs1 s (s 0 0 p) (s 0 0 (p + 1))) := s1.lN (by omega)
  have loop2 : ∀ (d j : Nat), s 6 (s 0 0 (p + 1)) 0 - s 6 (s 0 0 p) 0 + 1 ≤ j + d → j ≤ s 6 (s 0 0 (p + 1)) 0 - s 6 (s 0 0 p) 0 → ∀ (H : Heap) (locs : List Loc), va_P g.1 vwCl (wC g a n (lpN (rs1 s (s 0 0 p) (s 0 0 (p + 1))) (s 0 0 p) 1 (s 6 (s 0 0 p) 0) j)) H → va_S A s0.heap H locs → ∀ ls : Array Slot, lv_has ls 7 [(6, .int (nI (s 6 (s 0 0 p) 0 + j + 1))), (5, .int (nI (s 5 (s 0 0 (p + 1)) 0))), (4, .ref (a (7 * (s 0 0 (p + 1)) + 5))), (3, .ref (a (7 * (s 0 0 p) + 5))), (2, .int (nI p)), (0, .ref (a 0))] → W pr l en ({ frames := 2, cells := 0, slots := 0, locals := 43 }) s0 m args below meth cd H locs 0 0 (MQ below (qI g (nI ((rsS s (s 0 0 p) (s 0 0 (p + 1))) 10 (2 * (s 0 0 p) + 0) 0)) (wC g a n (rsS s (s 0 0 p) (s 0 0 (p + 1)))) A) args s0 0 0 A) (F0 m 117 ls []) := by
    intro d
    induction d with
    | zero => intro j h1 h2; exact absurd h1 (by omega)
    | succ d ih =>
      intro j h1 h2 H locs hP hS ls hl
      have e6 : (lpN (rs1 s (s 0 0 p) (s 0 0 (p + 1))) (s 0 0 p) 1 (s 6 (s 0 0 p) 0) j) 6 (s 0 0 (p + 1)) 0 = s 6 (s 0 0 (p + 1)) 0 := (lpN_c (by decide) j).trans (rs1_c (by decide))
      refine lv_iload hx hb dX3_resync_117 (lv_at hl 0 rfl) ?_
      refine lv_aload hx hb dX3_resync_119 (lv_at hl 2 rfl) ?_
      refine va_getN (D := g.1) (C := RX1) (T := TX1) (N := 5) (ci := 1) hx hb hu1 (fun _ h => h) hown hC.1 hP _ (wC_node (i := (s 0 0 (p + 1))) (by omega)) rfl 3 (by decide) (hC.F (i := 139) (r := RX1) (n := "acknowledged") (d := "I") (by decide +kernel)) (fun _ h9 => h9) rfl dX3_resync_121 ?_
      refine k_icmp_gt (tgt := 142) hx hb dX3_resync_124 (by decide) (by omega) (by omega) (fun c124 => ?_) (fun c124 => ?_)
      · skip
        have ej : j = s 6 (s 0 0 (p + 1)) 0 - s 6 (s 0 0 p) 0 := by omega
        refine lv_aload_n hx hb dX3_resync_142 rfl (lv_at hl 3 rfl) ?_
        refine va_getN (D := g.1) (C := RX1) (T := TX1) (N := 5) (ci := 1) hx hb hu1 (fun _ h => h) hown hC.1 hP _ (wC_node (i := (s 0 0 p)) (by omega)) rfl 1 (by decide) (hC.F (i := 88) (r := RX1) (n := "link") (d := "LSplicedChain$Link;") (by decide +kernel)) (fun _ h9 => h9) rfl dX3_resync_143 ?_
        refine va_getN (D := g.1) (C := RX0) (T := TX0) (N := 3) (ci := 0) hx hb hu0 (fun _ h => h) hown hC.1 hP _ (wC_link (i := (s 0 0 p)) (by omega)) rfl 0 (by decide) (hC.F (i := 92) (r := RX0) (n := "updates") (d := "LSplicedChain$Queue;") (by decide +kernel)) (fun _ h9 => h9) rfl dX3_resync_146 ?_
        refine va_getN (D := g.1) (C := RX2) (T := TX2) (N := 3) (ci := 2) hx hb hu2 (fun _ h => h) hown hC.1 hP _ (wC_q (i := (s 0 0 p)) (w := 0) (by omega) (by decide)) rfl 2 (by decide) (hC.F (i := 154) (r := RX2) (n := "size") (d := "I") (by decide +kernel)) (fun _ h9 => h9) rfl dX3_resync_149 ?_
        exact k_iret hx hb hr hlk (by rw [ej]; rfl) (P_eq (congrArg (wC g a n) (by rw [ej]; rfl)) hP) hS dX3_resync_152
      · skip
        refine lv_aload_n hx hb dX3_resync_127 rfl (lv_at hl 3 rfl) ?_
        refine va_getN (D := g.1) (C := RX1) (T := TX1) (N := 5) (ci := 1) hx hb hu1 (fun _ h => h) hown hC.1 hP _ (wC_node (i := (s 0 0 p)) (by omega)) rfl 1 (by decide) (hC.F (i := 88) (r := RX1) (n := "link") (d := "LSplicedChain$Link;") (by decide +kernel)) (fun _ h9 => h9) rfl dX3_resync_128 ?_
        refine lv_iload hx hb dX3_resync_131 (lv_at hl 0 rfl) ?_
        refine kV_v (w2 := wC g a n (lput (lpN (rs1 s (s 0 0 p) (s 0 0 (p + 1))) (s 0 0 p) 1 (s 6 (s 0 0 p) 0) j) ((s 0 0 p)) 1 (s 6 (s 0 0 p) 0 + j + 1))) (As := [.int (nI (s 6 (s 0 0 p) 0 + j + 1))]) (b := a (7 * (s 0 0 p) + 7)) (rest := []) (A1 := A) hfx (c_X0_putAcknowledgement l hA hn6 (s := (lpN (rs1 s (s 0 0 p) (s 0 0 (p + 1))) (s 0 0 p) 1 (s 6 (s 0 0 p) 0) j)) (i := (s 0 0 p)) (v := s 6 (s 0 0 p) 0 + j + 1) (by omega) (s2.lN (by omega))) (cwV 1 hts gX3_resync_X0_putAcknowledgement rfl rfl rfl (by decide +kernel) ⟨by decide, by decide⟩) (va_recv hC.1 hP (ci := 0) rfl (wC_link (i := (s 0 0 p)) (by omega))) hC hP hS (fun _ h => h) rfl hl.1 rfl (Nat.le_of_ble_eq_true rfl) dX3_resync_133 ⟨Nat.le_of_ble_eq_true rfl, Nat.le_of_ble_eq_true rfl⟩ (fun H locs hP hS _ _ => ?_)
        refine lv_iinc (v := nI (s 6 (s 0 0 p) 0 + j + 1 + 1)) (lv' := [(6, .int (nI (s 6 (s 0 0 p) 0 + j + 1 + 1))), (5, .int (nI (s 5 (s 0 0 (p + 1)) 0))), (4, .ref (a (7 * (s 0 0 (p + 1)) + 5))), (3, .ref (a (7 * (s 0 0 p) + 5))), (2, .int (nI p)), (0, .ref (a 0))]) hx hb dX3_resync_136 hl (k := 0) rfl (nI_add _ _) (by decide) rfl (fun ls hl => ?_)
        refine lv_goto (tgt := 117) hx hb dX3_resync_139 (by decide) ?_
        exact ih (j + 1) (by omega) (by omega) H locs hP hS ls (lv_sub hl [0, 1, 2, 3, 4, 5] rfl)
  have loop1 : ∀ (d j : Nat), s 5 (s 0 0 p) 0 - s 5 (s 0 0 (p + 1)) 0 + 1 ≤ j + d → j ≤ s 5 (s 0 0 p) 0 - s 5 (s 0 0 (p + 1)) 0 → ∀ (H : Heap) (locs : List Loc), va_P g.1 vwCl (wC g a n (lpN (w3 s 8 (s 0 0 p) 0 1) (s 0 0 p) 0 (s 5 (s 0 0 (p + 1)) 0) j)) H → va_S A s0.heap H locs → ∀ ls : Array Slot, lv_has ls 7 [(6, .int (nI (s 5 (s 0 0 (p + 1)) 0 + j + 1))), (5, .int (nI (s 5 (s 0 0 (p + 1)) 0))), (4, .ref (a (7 * (s 0 0 (p + 1)) + 5))), (3, .ref (a (7 * (s 0 0 p) + 5))), (2, .int (nI p)), (0, .ref (a 0))] → W pr l en ({ frames := 2, cells := 0, slots := 0, locals := 43 }) s0 m args below meth cd H locs 0 0 (MQ below (qI g (nI ((rsS s (s 0 0 p) (s 0 0 (p + 1))) 10 (2 * (s 0 0 p) + 0) 0)) (wC g a n (rsS s (s 0 0 p) (s 0 0 (p + 1)))) A) args s0 0 0 A) (F0 m 85 ls []) := by
    intro d
    induction d with
    | zero => intro j h1 h2; exact absurd h1 (by omega)
    | succ d ih =>
      intro j h1 h2 H locs hP hS ls hl
      have e5 : (lpN (w3 s 8 (s 0 0 p) 0 1) (s 0 0 p) 0 (s 5 (s 0 0 (p + 1)) 0) j) 5 (s 0 0 p) 0 = s 5 (s 0 0 p) 0 := (lpN_c (by decide) j).trans (w3_c (by decide))
      refine lv_iload hx hb dX3_resync_85 (lv_at hl 0 rfl) ?_
      refine lv_aload_n hx hb dX3_resync_87 rfl (lv_at hl 3 rfl) ?_
      refine va_getN (D := g.1) (C := RX1) (T := TX1) (N := 5) (ci := 1) hx hb hu1 (fun _ h => h) hown hC.1 hP _ (wC_node (i := (s 0 0 p)) (by omega)) rfl 2 (by decide) (hC.F (i := 52) (r := RX1) (n := "history") (d := "I") (by decide +kernel)) (fun _ h9 => h9) rfl dX3_resync_88 ?_
      refine k_icmp_gt (tgt := 109) hx hb dX3_resync_91 (by decide) (by omega) (by omega) (fun c91 => ?_) (fun c91 => ?_)
      · skip
        have ej : j = s 5 (s 0 0 p) 0 - s 5 (s 0 0 (p + 1)) 0 := by omega
        have hP : va_P g.1 vwCl (wC g a n (rs1 s (s 0 0 p) (s 0 0 (p + 1)))) H := P_eq (congrArg (wC g a n) (by rw [ej]; rfl)) hP
        refine lv_aload_n hx hb dX3_resync_109 rfl (lv_at hl 3 rfl) ?_
        refine va_getN (D := g.1) (C := RX1) (T := TX1) (N := 5) (ci := 1) hx hb hu1 (fun _ h => h) hown hC.1 hP _ (wC_node (i := (s 0 0 p)) (by omega)) rfl 3 (by decide) (hC.F (i := 139) (r := RX1) (n := "acknowledged") (d := "I") (by decide +kernel)) (fun _ h9 => h9) rfl dX3_resync_110 ?_
        refine k_ic (x := 1) hx hb dX3_resync_113 (by decide) ?_
        refine k_iadd (x := (rs1 s (s 0 0 p) (s 0 0 (p + 1))) 6 ((s 0 0 p)) 0) (y := 1) hx hb dX3_resync_114 ?_
        refine lv_istore (lv' := [(6, .int (nI (((rs1 s (s 0 0 p) (s 0 0 (p + 1))) 6 ((s 0 0 p)) 0) + 1))), (5, .int (nI (s 5 (s 0 0 (p + 1)) 0))), (4, .ref (a (7 * (s 0 0 (p + 1)) + 5))), (3, .ref (a (7 * (s 0 0 p) + 5))), (2, .int (nI p)), (0, .ref (a 0))]) hx hb dX3_resync_115 hl (by decide) rfl (fun ls hl => ?_)
        exact loop2 (s 6 (s 0 0 (p + 1)) 0 - s 6 (s 0 0 p) 0 + 1) 0 (by omega) (by omega) _ _ hP hS ls (by have e9 : (rs1 s (s 0 0 p) (s 0 0 (p + 1))) 6 (s 0 0 p) 0 = s 6 (s 0 0 p) 0 := rs1_c (by decide); rw [e9] at hl; exact lv_sub hl [0, 1, 2, 3, 4, 5] rfl)
      · skip
        refine lv_aload_n hx hb dX3_resync_94 rfl (lv_at hl 3 rfl) ?_
        refine va_getN (D := g.1) (C := RX1) (T := TX1) (N := 5) (ci := 1) hx hb hu1 (fun _ h => h) hown hC.1 hP _ (wC_node (i := (s 0 0 p)) (by omega)) rfl 1 (by decide) (hC.F (i := 88) (r := RX1) (n := "link") (d := "LSplicedChain$Link;") (by decide +kernel)) (fun _ h9 => h9) rfl dX3_resync_95 ?_
        refine lv_iload hx hb dX3_resync_98 (lv_at hl 0 rfl) ?_
        refine kV_v (w2 := wC g a n (lput (lpN (w3 s 8 (s 0 0 p) 0 1) (s 0 0 p) 0 (s 5 (s 0 0 (p + 1)) 0) j) ((s 0 0 p)) 0 (s 5 (s 0 0 (p + 1)) 0 + j + 1))) (As := [.int (nI (s 5 (s 0 0 (p + 1)) 0 + j + 1))]) (b := a (7 * (s 0 0 p) + 7)) (rest := []) (A1 := A) hfx (c_X0_putUpdate l hA hn6 (s := (lpN (w3 s 8 (s 0 0 p) 0 1) (s 0 0 p) 0 (s 5 (s 0 0 (p + 1)) 0) j)) (i := (s 0 0 p)) (v := s 5 (s 0 0 (p + 1)) 0 + j + 1) (by omega) (s1.lN (by omega))) (cwV 1 hts gX3_resync_X0_putUpdate rfl rfl rfl (by decide +kernel) ⟨by decide, by decide⟩) (va_recv hC.1 hP (ci := 0) rfl (wC_link (i := (s 0 0 p)) (by omega))) hC hP hS (fun _ h => h) rfl hl.1 rfl (Nat.le_of_ble_eq_true rfl) dX3_resync_100 ⟨Nat.le_of_ble_eq_true rfl, Nat.le_of_ble_eq_true rfl⟩ (fun H locs hP hS _ _ => ?_)
        refine lv_iinc (v := nI (s 5 (s 0 0 (p + 1)) 0 + j + 1 + 1)) (lv' := [(6, .int (nI (s 5 (s 0 0 (p + 1)) 0 + j + 1 + 1))), (5, .int (nI (s 5 (s 0 0 (p + 1)) 0))), (4, .ref (a (7 * (s 0 0 (p + 1)) + 5))), (3, .ref (a (7 * (s 0 0 p) + 5))), (2, .int (nI p)), (0, .ref (a 0))]) hx hb dX3_resync_103 hl (k := 0) rfl (nI_add _ _) (by decide) rfl (fun ls hl => ?_)
        refine lv_goto (tgt := 85) hx hb dX3_resync_106 (by decide) ?_
        exact ih (j + 1) (by omega) (by omega) H locs hP hS ls (lv_sub hl [0, 1, 2, 3, 4, 5] rfl)
  refine lv_aload_n hx hb dX3_resync_0 rfl (lv_at hl 0 rfl) ?_
  refine lv_iload_n hx hb dX3_resync_1 rfl (lv_at hl 1 rfl) ?_
  refine kV_i (r := nI 1) (w2 := wC g a n s) (As := [.int (nI nd)]) (b := a 0) (rest := []) (A1 := A) hfx (c_X3_isNode l hA hn6 (s := s) (j := nd) (by omega)) (cwV 1 hts gX3_resync_X3_isNode rfl rfl rfl (by decide +kernel) ⟨by decide, by decide⟩) (va_recv hC.1 hP (ci := 3) rfl (wC_obj)) hC hP hS (fun _ h => h) rfl hl.1 rfl (Nat.le_of_ble_eq_true rfl) dX3_resync_2 ⟨Nat.le_of_ble_eq_true rfl, Nat.le_of_ble_eq_true rfl⟩ (fun H locs hP hS _ _ => ?_)
  refine k_if_ne (tgt := 18) hx hb dX3_resync_5 (by decide) (by omega) (fun c5 => ?_) (fun c5 => ?_)
  · skip
    refine lv_aload_n hx hb dX3_resync_18 rfl (lv_at hl 0 rfl) ?_
    refine lv_iload_n hx hb dX3_resync_19 rfl (lv_at hl 1 rfl) ?_
    refine kV_i (r := nI p) (w2 := wC g a n s) (As := [.int (nI nd)]) (b := a 0) (rest := []) (A1 := A) hfx (c_X3_positionOf l hA hn6 (s := s) (p := p) (nd := nd) (hs) (by omega) (hp) (hpe) (hf)) (cwV 1 hts gX3_resync_X3_positionOf rfl rfl rfl (by decide +kernel) ⟨by decide, by decide⟩) (va_recv hC.1 hP (ci := 3) rfl (wC_obj)) hC hP hS (fun _ h => h) rfl hl.1 rfl (Nat.le_of_ble_eq_true rfl) dX3_resync_20 ⟨Nat.le_of_ble_eq_true rfl, Nat.le_of_ble_eq_true rfl⟩ (fun H locs hP hS _ _ => ?_)
    refine lv_istore_n (lv' := [(2, .int (nI p)), (0, .ref (a 0)), (1, .int (nI nd))]) hx hb dX3_resync_23 rfl hl (by decide) rfl (fun ls hl => ?_)
    refine lv_aload_n hx hb dX3_resync_24 rfl (lv_at hl 1 rfl) ?_
    refine lv_iload_n hx hb dX3_resync_25 rfl (lv_at hl 0 rfl) ?_
    refine kV_i (r := nI (if p + 1 ≠ s 1 0 0 ∧ s 7 (s 0 0 p) 0 = 0 ∧ s 7 (s 0 0 (p + 1)) 0 = 0 ∧ s 8 (s 0 0 p) 0 = 0 then 1 else 0)) (w2 := wC g a n s) (As := [.int (nI p)]) (b := a 0) (rest := []) (A1 := A) hfx (c_X3_canResyncAt l hA hn6 (s := s) (p := p) (hs) (by omega)) (cwV 1 hts gX3_resync_X3_canResyncAt rfl rfl rfl (by decide +kernel) ⟨by decide, by decide⟩) (va_recv hC.1 hP (ci := 3) rfl (wC_obj)) hC hP hS (fun _ h => h) rfl hl.1 rfl (Nat.le_of_ble_eq_true rfl) dX3_resync_26 ⟨Nat.le_of_ble_eq_true rfl, Nat.le_of_ble_eq_true rfl⟩ (fun H locs hP hS _ _ => ?_)
    rw [if_pos hcan]
    refine k_if_ne (tgt := 42) hx hb dX3_resync_29 (by decide) (by omega) (fun c29 => ?_) (fun c29 => ?_)
    · skip
      refine lv_aload_n hx hb dX3_resync_42 rfl (lv_at hl 1 rfl) ?_
      refine lv_iload_n hx hb dX3_resync_43 rfl (lv_at hl 0 rfl) ?_
      refine kV_r (r := a (7 * (s 0 0 p) + 5)) (w2 := wC g a n s) (As := [.int (nI p)]) (b := a 0) (rest := []) (A1 := A) hfx (c_X3_nodeAt l hA hn6 (s := s) (p := p) (x := s 0 0 p) (rfl) (by omega) (by omega)) (cwV 1 hts gX3_resync_X3_nodeAt rfl rfl rfl (by decide +kernel) ⟨by decide, by decide⟩) (va_recv hC.1 hP (ci := 3) rfl (wC_obj)) hC hP hS (fun _ h => h) rfl hl.1 rfl (Nat.le_of_ble_eq_true rfl) dX3_resync_44 ⟨Nat.le_of_ble_eq_true rfl, Nat.le_of_ble_eq_true rfl⟩ (fun H locs hP hS _ _ => ?_)
      refine lv_astore_n (lv' := [(3, .ref (a (7 * (s 0 0 p) + 5))), (2, .int (nI p)), (0, .ref (a 0)), (1, .int (nI nd))]) hx hb dX3_resync_47 rfl hl (by decide) rfl (fun ls hl => ?_)
      refine lv_aload_n hx hb dX3_resync_48 rfl (lv_at hl 2 rfl) ?_
      refine lv_iload_n hx hb dX3_resync_49 rfl (lv_at hl 1 rfl) ?_
      refine k_ic (x := 1) hx hb dX3_resync_50 (by decide) ?_
      refine k_iadd (x := p) (y := 1) hx hb dX3_resync_51 ?_
      refine kV_r (r := a (7 * (s 0 0 (p + 1)) + 5)) (w2 := wC g a n s) (As := [.int (nI (p + 1))]) (b := a 0) (rest := []) (A1 := A) hfx (c_X3_nodeAt l hA hn6 (s := s) (p := p + 1) (x := s 0 0 (p + 1)) (rfl) (by omega) (by omega)) (cwV 1 hts gX3_resync_X3_nodeAt rfl rfl rfl (by decide +kernel) ⟨by decide, by decide⟩) (va_recv hC.1 hP (ci := 3) rfl (wC_obj)) hC hP hS (fun _ h => h) rfl hl.1 rfl (Nat.le_of_ble_eq_true rfl) dX3_resync_52 ⟨Nat.le_of_ble_eq_true rfl, Nat.le_of_ble_eq_true rfl⟩ (fun H locs hP hS _ _ => ?_)
      refine lv_astore (lv' := [(4, .ref (a (7 * (s 0 0 (p + 1)) + 5))), (3, .ref (a (7 * (s 0 0 p) + 5))), (2, .int (nI p)), (0, .ref (a 0)), (1, .int (nI nd))]) hx hb dX3_resync_55 hl (by decide) rfl (fun ls hl => ?_)
      refine lv_aload_n hx hb dX3_resync_57 rfl (lv_at hl 1 rfl) ?_
      refine va_getN (D := g.1) (C := RX1) (T := TX1) (N := 5) (ci := 1) hx hb hu1 (fun _ h => h) hown hC.1 hP _ (wC_node (i := (s 0 0 p)) (by omega)) rfl 1 (by decide) (hC.F (i := 88) (r := RX1) (n := "link") (d := "LSplicedChain$Link;") (by decide +kernel)) (fun _ h9 => h9) rfl dX3_resync_58 ?_
      refine k_ic (x := 1) hx hb dX3_resync_61 (by decide) ?_
      refine va_putN (D := g.1) (v := .int (nI 1)) (ty := .boolean) (C := RX0) (T := TX0) (N := 3) (ci := 0) hx hb hu0 (fun _ h => h) tyX0 tyX0_ok nmX0 hown hC.1 hP hA.D hS _ (wC_link (i := (s 0 0 p)) (by omega)) rfl 2 (by decide) (hC.F (i := 136) (r := RX0) (n := "open") (d := "Z") (by decide +kernel)) (fun _ h9 => h9) rfl (by decide +kernel) (by decide) rfl (Nat.le_of_ble_eq_true rfl) dX3_resync_62 (fun H locs hP _ hS => ?_)
      have hP : va_P g.1 vwCl (wC g a n (w3 s 8 ((s 0 0 p)) 0 1)) H := P_eq (wp_open (i := (s 0 0 p))) hP
      refine lv_aload hx hb dX3_resync_65 (lv_at hl 0 rfl) ?_
      refine va_getN (D := g.1) (C := RX1) (T := TX1) (N := 5) (ci := 1) hx hb hu1 (fun _ h => h) hown hC.1 hP _ (wC_node (i := (s 0 0 (p + 1))) (by omega)) rfl 2 (by decide) (hC.F (i := 52) (r := RX1) (n := "history") (d := "I") (by decide +kernel)) (fun _ h9 => h9) rfl dX3_resync_67 ?_
      refine k_as (x := s 5 ((s 0 0 (p + 1))) 0) (by simp [w3]) ?_
      refine lv_aload_n hx hb dX3_resync_70 rfl (lv_at hl 1 rfl) ?_
      refine va_getN (D := g.1) (C := RX1) (T := TX1) (N := 5) (ci := 1) hx hb hu1 (fun _ h => h) hown hC.1 hP _ (wC_node (i := (s 0 0 p)) (by omega)) rfl 3 (by decide) (hC.F (i := 139) (r := RX1) (n := "acknowledged") (d := "I") (by decide +kernel)) (fun _ h9 => h9) rfl dX3_resync_71 ?_
      refine k_as (x := s 6 ((s 0 0 p)) 0) (by simp [w3]) ?_
      refine va_mmax hx hb (hml.trans hl.1.symm) hown (hts (.methodLink RX3 142 Lib.Math.max.name) (by decide +kernel)) (hts (.static Lib.Math.max.name) (by decide +kernel)) (hts (.initialized "java/lang/Math") (by decide +kernel)) (hts (.code Lib.Math.max.name Lib.Math.max.code 2 (some .int)) (by decide +kernel)) (by decide) (Nat.le_of_ble_eq_true rfl) (Nat.zero_le _) (Nat.zero_le _) dX3_resync_74 ?_
      refine k_as (x := s 5 (s 0 0 (p + 1)) 0) (by rw [if_neg]; exact fun q => absurd ((nI_ltI (by omega) (by omega)).mp q) (by omega)) ?_
      refine lv_istore (lv' := [(5, .int (nI (s 5 (s 0 0 (p + 1)) 0))), (4, .ref (a (7 * (s 0 0 (p + 1)) + 5))), (3, .ref (a (7 * (s 0 0 p) + 5))), (2, .int (nI p)), (0, .ref (a 0)), (1, .int (nI nd))]) hx hb dX3_resync_77 hl (by decide) rfl (fun ls hl => ?_)
      refine lv_iload hx hb dX3_resync_79 (lv_at hl 0 rfl) ?_
      refine k_ic (x := 1) hx hb dX3_resync_81 (by decide) ?_
      refine k_iadd (x := s 5 (s 0 0 (p + 1)) 0) (y := 1) hx hb dX3_resync_82 ?_
      refine lv_istore (lv' := [(6, .int (nI ((s 5 (s 0 0 (p + 1)) 0) + 1))), (5, .int (nI (s 5 (s 0 0 (p + 1)) 0))), (4, .ref (a (7 * (s 0 0 (p + 1)) + 5))), (3, .ref (a (7 * (s 0 0 p) + 5))), (2, .int (nI p)), (0, .ref (a 0)), (1, .int (nI nd))]) hx hb dX3_resync_83 hl (by decide) rfl (fun ls hl => ?_)
      exact loop1 (s 5 (s 0 0 p) 0 - s 5 (s 0 0 (p + 1)) 0 + 1) 0 (by omega) (by omega) _ _ hP hS ls (lv_sub hl [0, 1, 2, 3, 4, 5] rfl)
    · exfalso; omega
  · exfalso; omega
