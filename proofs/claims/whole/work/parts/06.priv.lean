theorem nI_m1 {p : Nat} (h : p < 2147483648) : ¬ nI p = -1 := by
  intro q
  have h1 := nI_toInt h
  rw [q] at h1
  have h2 : (-1 : Int32).toInt = -1 := by decide
  omega
set_option maxHeartbeats 4000000 in
set_option maxRecDepth 100000 in
/-- isNode of a node -/
theorem c_X3_isNode (l : Launch) {g : GG} {a : Nat → Nat} {n : Nat} {A : Nat → Prop} (hA : Ap A a (5 + 7 * n)) (hn6 : n ≤ 6) {s : CS} {j : Nat} (hj : j < n) : Met l yX3_isNode wsX3_isNode ({ frames := 0, cells := 0, slots := 0, locals := 0 }) (pC g [.ref (a 0), .int (nI j)] (wC g a n s)) (qI g (nI 1) (wC g a n s) A) 0 0 A := by
  refine k_start (cc := cX3_isNode) (maxL := 2) (ret := (some .boolean)) (by decide) rfl (Nat.le_of_ble_eq_true rfl) ?_
  intro pr en s0 m args below meth cd hx hb hml hr hlk hts hown hin hC hP ls hl
  have hS : va_S A s0.heap s0.heap [] := va_S.rf
  have hfx : CallFix pr m cd cX3_isNode 2 s0 args wsX3_isNode RX3 := ⟨hx, hb, hml, hown, hts⟩
  have hu3 : ∀ w ∈ wsX30, w.before args s0 = true := fun w h => hts w ((by decide +kernel : ∀ w ∈ wsX30, w ∈ wsX3_isNode) w h)
  have hl : lv_has ls 2 [(0, .ref (a 0)), (1, .int (nI j))] := hl
  refine lv_iload_n hx hb dX3_isNode_0 rfl (lv_at hl 1 rfl) ?_
  refine lv_if_lt (tgt := 17) hx hb dX3_isNode_1 (by decide) (fun c1 => ?_) (fun c1 => ?_)
  · exact absurd c1 (nI_pos (by omega))
  · skip
    refine lv_iload_n hx hb dX3_isNode_4 rfl (lv_at hl 1 rfl) ?_
    refine lv_aload_n hx hb dX3_isNode_5 rfl (lv_at hl 0 rfl) ?_
    refine va_get (D := g.1) (C := RX3) (T := TX3) (N := 6) (ci := 3) hx hb hu3 (fun _ h => h) hown hC.1 hP _ (wC_obj) rfl 0 (by decide) (hts (.fieldLink RX3 22 "SplicedChain" "nodes" "[LSplicedChain$Node;") (by decide +kernel)) (fun _ h9 => h9) rfl dX3_isNode_6 ?_
    refine va_alen hx hb hC.1 hP _ 2 (wC_nodes) rfl (v := nI n) rfl dX3_isNode_9 ?_
    refine k_icmp_ge (tgt := 17) hx hb dX3_isNode_10 (by decide) (by omega) (by omega) (fun c10 => ?_) (fun c10 => ?_)
    · exfalso; omega
    · skip
      refine k_ic (x := 1) hx hb dX3_isNode_13 (by decide) ?_
      refine lv_goto (tgt := 18) hx hb dX3_isNode_14 (by decide) ?_
      exact k_zret hx hb hr hlk (by rfl) (by decide) hP hS dX3_isNode_18
set_option maxHeartbeats 4000000 in
set_option maxRecDepth 100000 in
/-- isNode of no node -/
theorem c_X3_isNode_no (l : Launch) {g : GG} {a : Nat → Nat} {n : Nat} {A : Nat → Prop} (hA : Ap A a (5 + 7 * n)) (hn6 : n ≤ 6) {s : CS} {x : Int32} (hbad : x < 0 ∨ nI n ≤ x) : Met l yX3_isNode wsX3_isNode ({ frames := 0, cells := 0, slots := 0, locals := 0 }) (pC g [.ref (a 0), .int (x)] (wC g a n s)) (qI g (nI 0) (wC g a n s) A) 0 0 A := by
  refine k_start (cc := cX3_isNode) (maxL := 2) (ret := (some .boolean)) (by decide) rfl (Nat.le_of_ble_eq_true rfl) ?_
  intro pr en s0 m args below meth cd hx hb hml hr hlk hts hown hin hC hP ls hl
  have hS : va_S A s0.heap s0.heap [] := va_S.rf
  have hfx : CallFix pr m cd cX3_isNode 2 s0 args wsX3_isNode RX3 := ⟨hx, hb, hml, hown, hts⟩
  have hu3 : ∀ w ∈ wsX30, w.before args s0 = true := fun w h => hts w ((by decide +kernel : ∀ w ∈ wsX30, w ∈ wsX3_isNode) w h)
  have hl : lv_has ls 2 [(0, .ref (a 0)), (1, .int (x))] := hl
  refine lv_iload_n hx hb dX3_isNode_0 rfl (lv_at hl 1 rfl) ?_
  refine lv_if_lt (tgt := 17) hx hb dX3_isNode_1 (by decide) (fun c1 => ?_) (fun c1 => ?_)
  · skip
    refine k_ic (x := 0) hx hb dX3_isNode_17 (by decide) ?_
    exact k_zret hx hb hr hlk (by rfl) (by decide) hP hS dX3_isNode_18
  · skip
    refine lv_iload_n hx hb dX3_isNode_4 rfl (lv_at hl 1 rfl) ?_
    refine lv_aload_n hx hb dX3_isNode_5 rfl (lv_at hl 0 rfl) ?_
    refine va_get (D := g.1) (C := RX3) (T := TX3) (N := 6) (ci := 3) hx hb hu3 (fun _ h => h) hown hC.1 hP _ (wC_obj) rfl 0 (by decide) (hts (.fieldLink RX3 22 "SplicedChain" "nodes" "[LSplicedChain$Node;") (by decide +kernel)) (fun _ h9 => h9) rfl dX3_isNode_6 ?_
    refine va_alen hx hb hC.1 hP _ 2 (wC_nodes) rfl (v := nI n) rfl dX3_isNode_9 ?_
    refine lv_icmp_ge (tgt := 17) hx hb dX3_isNode_10 (by decide) (fun c10 => ?_) (fun c10 => ?_)
    · skip
      refine k_ic (x := 0) hx hb dX3_isNode_17 (by decide) ?_
      exact k_zret hx hb hr hlk (by rfl) (by decide) hP hS dX3_isNode_18
    · exact absurd (hbad.resolve_left c1) c10
set_option maxHeartbeats 4000000 in
set_option maxRecDepth 100000 in
/-- isKey of a key -/
theorem c_X3_isKey (l : Launch) {g : GG} {a : Nat → Nat} {n : Nat} {A : Nat → Prop} (hA : Ap A a (5 + 7 * n)) (hn6 : n ≤ 6) {s : CS} {j : Nat} (hj : j < 8) : Met l yX3_isKey wsX3_isKey ({ frames := 0, cells := 0, slots := 0, locals := 0 }) (pC g [.int (nI j)] (wC g a n s)) (qI g (nI 1) (wC g a n s) A) 0 0 A := by
  refine k_start (cc := cX3_isKey) (maxL := 1) (ret := (some .boolean)) (by decide) rfl (Nat.le_of_ble_eq_true rfl) ?_
  intro pr en s0 m args below meth cd hx hb hml hr hlk hts hown hin hC hP ls hl
  have hS : va_S A s0.heap s0.heap [] := va_S.rf
  have hfx : CallFix pr m cd cX3_isKey 1 s0 args wsX3_isKey RX3 := ⟨hx, hb, hml, hown, hts⟩
  have hl : lv_has ls 1 [(0, .int (nI j))] := hl
  refine lv_iload_n hx hb dX3_isKey_0 rfl (lv_at hl 0 rfl) ?_
  refine lv_if_lt (tgt := 14) hx hb dX3_isKey_1 (by decide) (fun c1 => ?_) (fun c1 => ?_)
  · exact absurd c1 (nI_pos (by omega))
  · skip
    refine lv_iload_n hx hb dX3_isKey_4 rfl (lv_at hl 0 rfl) ?_
    refine k_bi (x := 8) hx hb dX3_isKey_5 (by decide) ?_
    refine k_icmp_ge (tgt := 14) hx hb dX3_isKey_7 (by decide) (by omega) (by omega) (fun c7 => ?_) (fun c7 => ?_)
    · exfalso; omega
    · skip
      refine k_ic (x := 1) hx hb dX3_isKey_10 (by decide) ?_
      refine lv_goto (tgt := 15) hx hb dX3_isKey_11 (by decide) ?_
      exact k_zret hx hb hr hlk (by rfl) (by decide) hP hS dX3_isKey_15
set_option maxHeartbeats 4000000 in
set_option maxRecDepth 100000 in
/-- isKey of no key -/
theorem c_X3_isKey_no (l : Launch) {g : GG} {a : Nat → Nat} {n : Nat} {A : Nat → Prop} (hA : Ap A a (5 + 7 * n)) (hn6 : n ≤ 6) {s : CS} {x : Int32} (hbadk : x < 0 ∨ nI 8 ≤ x) : Met l yX3_isKey wsX3_isKey ({ frames := 0, cells := 0, slots := 0, locals := 0 }) (pC g [.int (x)] (wC g a n s)) (qI g (nI 0) (wC g a n s) A) 0 0 A := by
  refine k_start (cc := cX3_isKey) (maxL := 1) (ret := (some .boolean)) (by decide) rfl (Nat.le_of_ble_eq_true rfl) ?_
  intro pr en s0 m args below meth cd hx hb hml hr hlk hts hown hin hC hP ls hl
  have hS : va_S A s0.heap s0.heap [] := va_S.rf
  have hfx : CallFix pr m cd cX3_isKey 1 s0 args wsX3_isKey RX3 := ⟨hx, hb, hml, hown, hts⟩
  have hl : lv_has ls 1 [(0, .int (x))] := hl
  refine lv_iload_n hx hb dX3_isKey_0 rfl (lv_at hl 0 rfl) ?_
  refine lv_if_lt (tgt := 14) hx hb dX3_isKey_1 (by decide) (fun c1 => ?_) (fun c1 => ?_)
  · skip
    refine k_ic (x := 0) hx hb dX3_isKey_14 (by decide) ?_
    exact k_zret hx hb hr hlk (by rfl) (by decide) hP hS dX3_isKey_15
  · skip
    refine lv_iload_n hx hb dX3_isKey_4 rfl (lv_at hl 0 rfl) ?_
    refine k_bi (x := 8) hx hb dX3_isKey_5 (by decide) ?_
    refine lv_icmp_ge (tgt := 14) hx hb dX3_isKey_7 (by decide) (fun c7 => ?_) (fun c7 => ?_)
    · skip
      refine k_ic (x := 0) hx hb dX3_isKey_14 (by decide) ?_
      exact k_zret hx hb hr hlk (by rfl) (by decide) hP hS dX3_isKey_15
    · exact absurd (hbadk.resolve_left c1) c7
set_option maxHeartbeats 4000000 in
set_option maxRecDepth 100000 in
/-- nodeAt -/
theorem c_X3_nodeAt (l : Launch) {g : GG} {a : Nat → Nat} {n : Nat} {A : Nat → Prop} (hA : Ap A a (5 + 7 * n)) (hn6 : n ≤ 6) {s : CS} {p x : Nat} (hxe : s 0 0 p = x) (hxn : x < n) (hp : p < n) : Met l yX3_nodeAt wsX3_nodeAt ({ frames := 0, cells := 0, slots := 0, locals := 0 }) (pC g [.ref (a 0), .int (nI p)] (wC g a n s)) (qR g (a (7 * x + 5)) (wC g a n s) A) 0 0 A := by
  refine k_start (cc := cX3_nodeAt) (maxL := 2) (ret := (some (.object "SplicedChain$Node"))) (by decide) rfl (Nat.le_of_ble_eq_true rfl) ?_
  intro pr en s0 m args below meth cd hx hb hml hr hlk hts hown hin hC hP ls hl
  have hS : va_S A s0.heap s0.heap [] := va_S.rf
  have hfx : CallFix pr m cd cX3_nodeAt 2 s0 args wsX3_nodeAt RX3 := ⟨hx, hb, hml, hown, hts⟩
  have hu3 : ∀ w ∈ wsX30, w.before args s0 = true := fun w h => hts w ((by decide +kernel : ∀ w ∈ wsX30, w ∈ wsX3_nodeAt) w h)
  have hl : lv_has ls 2 [(0, .ref (a 0)), (1, .int (nI p))] := hl
  subst hxe
  refine lv_aload_n hx hb dX3_nodeAt_0 rfl (lv_at hl 0 rfl) ?_
  refine va_get (D := g.1) (C := RX3) (T := TX3) (N := 6) (ci := 3) hx hb hu3 (fun _ h => h) hown hC.1 hP _ (wC_obj) rfl 0 (by decide) (hts (.fieldLink RX3 22 "SplicedChain" "nodes" "[LSplicedChain$Node;") (by decide +kernel)) (fun _ h9 => h9) rfl dX3_nodeAt_1 ?_
  refine lv_aload_n hx hb dX3_nodeAt_4 rfl (lv_at hl 0 rfl) ?_
  refine va_get (D := g.1) (C := RX3) (T := TX3) (N := 6) (ci := 3) hx hb hu3 (fun _ h => h) hown hC.1 hP _ (wC_obj) rfl 1 (by decide) (hts (.fieldLink RX3 26 "SplicedChain" "chain" "[I") (by decide +kernel)) (fun _ h9 => h9) rfl dX3_nodeAt_5 ?_
  refine lv_iload_n hx hb dX3_nodeAt_8 rfl (lv_at hl 1 rfl) ?_
  refine k_iald hx hb hC hP _ (wC_chain) (j := p) (by omega) (by omega) dX3_nodeAt_9 ?_
  refine k_aald (x := a (7 * (s 0 0 p) + 5)) hx hb hC hP _ (wC_nodes) (j := s 0 0 p) (by omega) (by omega) (by simp; omega) dX3_nodeAt_10 ?_
  exact k_aret hx hb hr hlk hP hS dX3_nodeAt_11
set_option maxHeartbeats 4000000 in
set_option maxRecDepth 100000 in
/-- isTailAt -/
theorem c_X3_isTailAt (l : Launch) {g : GG} {a : Nat → Nat} {n : Nat} {A : Nat → Prop} (hA : Ap A a (5 + 7 * n)) (hn6 : n ≤ 6) {s : CS} {p L : Nat} (hL : s 1 0 0 = L) (hL1 : 1 ≤ L) (hpL : p ≤ 6 ∧ L ≤ 6) : Met l yX3_isTailAt wsX3_isTailAt ({ frames := 0, cells := 0, slots := 0, locals := 0 }) (pC g [.ref (a 0), .int (nI p)] (wC g a n s)) (qI g (nI (if p + 1 = L then 1 else 0)) (wC g a n s) A) 0 0 A := by
  refine k_start (cc := cX3_isTailAt) (maxL := 2) (ret := (some .boolean)) (by decide) rfl (Nat.le_of_ble_eq_true rfl) ?_
  intro pr en s0 m args below meth cd hx hb hml hr hlk hts hown hin hC hP ls hl
  have hS : va_S A s0.heap s0.heap [] := va_S.rf
  have hfx : CallFix pr m cd cX3_isTailAt 2 s0 args wsX3_isTailAt RX3 := ⟨hx, hb, hml, hown, hts⟩
  have hu3 : ∀ w ∈ wsX30, w.before args s0 = true := fun w h => hts w ((by decide +kernel : ∀ w ∈ wsX30, w ∈ wsX3_isTailAt) w h)
  have hl : lv_has ls 2 [(0, .ref (a 0)), (1, .int (nI p))] := hl
  subst hL
  refine lv_iload_n hx hb dX3_isTailAt_0 rfl (lv_at hl 1 rfl) ?_
  refine lv_aload_n hx hb dX3_isTailAt_1 rfl (lv_at hl 0 rfl) ?_
  refine va_get (D := g.1) (C := RX3) (T := TX3) (N := 6) (ci := 3) hx hb hu3 (fun _ h => h) hown hC.1 hP _ (wC_obj) rfl 2 (by decide) (hts (.fieldLink RX3 29 "SplicedChain" "chainLength" "I") (by decide +kernel)) (fun _ h9 => h9) rfl dX3_isTailAt_2 ?_
  refine k_ic (x := 1) hx hb dX3_isTailAt_5 (by decide) ?_
  refine k_isub (x := s 1 0 0) (y := 1) hx hb (by omega) dX3_isTailAt_6 ?_
  refine k_icmp_ne (tgt := 14) hx hb dX3_isTailAt_7 (by decide) (by omega) (by omega) (fun c7 => ?_) (fun c7 => ?_)
  · skip
    refine k_ic (x := 0) hx hb dX3_isTailAt_14 (by decide) ?_
    exact k_zret hx hb hr hlk (by first | rw [if_pos (by omega)] | rw [if_neg (by omega)]) (by decide) hP hS dX3_isTailAt_15
  · skip
    refine k_ic (x := 1) hx hb dX3_isTailAt_10 (by decide) ?_
    refine lv_goto (tgt := 15) hx hb dX3_isTailAt_11 (by decide) ?_
    exact k_zret hx hb hr hlk (by first | rw [if_pos (by omega)] | rw [if_neg (by omega)]) (by decide) hP hS dX3_isTailAt_15
set_option maxHeartbeats 4000000 in
set_option maxRecDepth 100000 in
/-- positionOf -/
theorem c_X3_positionOf (l : Launch) {g : GG} {a : Nat → Nat} {n : Nat} {A : Nat → Prop} (hA : Ap A a (5 + 7 * n)) (hn6 : n ≤ 6) {s : CS} {p nd : Nat} (hs : Sh n s) (hnd : nd < n) (hp : p < s 1 0 0) (hpe : s 0 0 p = nd) (hf : ∀ k, k < p → s 0 0 k ≠ nd) : Met l yX3_positionOf wsX3_positionOf ({ frames := 0, cells := 0, slots := 0, locals := 0 }) (pC g [.ref (a 0), .int (nI nd)] (wC g a n s)) (qI g (nI p) (wC g a n s) A) 0 0 A := by
  refine k_start (cc := cX3_positionOf) (maxL := 3) (ret := (some .int)) (by decide) rfl (Nat.le_of_ble_eq_true rfl) ?_
  intro pr en s0 m args below meth cd hx hb hml hr hlk hts hown hin hC hP ls hl
  have hS : va_S A s0.heap s0.heap [] := va_S.rf
  have hfx : CallFix pr m cd cX3_positionOf 3 s0 args wsX3_positionOf RX3 := ⟨hx, hb, hml, hown, hts⟩
  have hu3 : ∀ w ∈ wsX30, w.before args s0 = true := fun w h => hts w ((by decide +kernel : ∀ w ∈ wsX30, w ∈ wsX3_positionOf) w h)
  have hl : lv_has ls 3 [(0, .ref (a 0)), (1, .int (nI nd))] := hl
  have f0 := hs.len
  have loop : ∀ (d k : Nat), p + 1 ≤ k + d → k ≤ p → ∀ ls : Array Slot, lv_has ls 3 [(2, .int (nI k)), (0, .ref (a 0)), (1, .int (nI nd))] → W pr l en ({ frames := 0, cells := 0, slots := 0, locals := 0 }) s0 m args below meth cd s0.heap [] 0 0 (MQ below (qI g (nI p) (wC g a n s) A) args s0 0 0 A) (F0 m 2 ls []) := by
    intro d
    induction d with
    | zero => intro k h1 h2; exact absurd h1 (by omega)
    | succ d ih =>
      intro k h1 h2 ls hl
      refine lv_iload_n hx hb dX3_positionOf_2 rfl (lv_at hl 0 rfl) ?_
      refine lv_aload_n hx hb dX3_positionOf_3 rfl (lv_at hl 1 rfl) ?_
      refine va_get (D := g.1) (C := RX3) (T := TX3) (N := 6) (ci := 3) hx hb hu3 (fun _ h => h) hown hC.1 hP _ (wC_obj) rfl 2 (by decide) (hts (.fieldLink RX3 29 "SplicedChain" "chainLength" "I") (by decide +kernel)) (fun _ h9 => h9) rfl dX3_positionOf_4 ?_
      refine k_icmp_ge (tgt := 28) hx hb dX3_positionOf_7 (by decide) (by omega) (by omega) (fun c7 => ?_) (fun c7 => ?_)
      · exfalso; omega
      · skip
        have f1 := hs.ch k (by omega)
        refine lv_aload_n hx hb dX3_positionOf_10 rfl (lv_at hl 1 rfl) ?_
        refine va_get (D := g.1) (C := RX3) (T := TX3) (N := 6) (ci := 3) hx hb hu3 (fun _ h => h) hown hC.1 hP _ (wC_obj) rfl 1 (by decide) (hts (.fieldLink RX3 26 "SplicedChain" "chain" "[I") (by decide +kernel)) (fun _ h9 => h9) rfl dX3_positionOf_11 ?_
        refine lv_iload_n hx hb dX3_positionOf_14 rfl (lv_at hl 0 rfl) ?_
        refine k_iald hx hb hC hP _ (wC_chain) (j := k) (by omega) (by omega) dX3_positionOf_15 ?_
        refine lv_iload_n hx hb dX3_positionOf_16 rfl (lv_at hl 2 rfl) ?_
        refine k_icmp_ne (tgt := 22) hx hb dX3_positionOf_17 (by decide) (by omega) (by omega) (fun c17 => ?_) (fun c17 => ?_)
        · skip
          have f2 : k ≠ p := fun q => c17 (by rw [q]; exact hpe)
          refine lv_iinc (v := nI (k + 1)) (lv' := [(2, .int (nI (k + 1))), (0, .ref (a 0)), (1, .int (nI nd))]) hx hb dX3_positionOf_22 hl (k := 0) rfl (nI_add _ _) (by decide) rfl (fun ls hl => ?_)
          refine lv_goto (tgt := 2) hx hb dX3_positionOf_25 (by decide) ?_
          exact ih (k + 1) (by omega) (by omega) ls (lv_sub hl [0, 1, 2] rfl)
        · skip
          have f2 : k = p := by rcases Nat.lt_or_ge k p with q | q; exact absurd c17 (hf k q); omega
          refine lv_iload_n hx hb dX3_positionOf_20 rfl (lv_at hl 0 rfl) ?_
          exact k_iret hx hb hr hlk (by rw [f2]) hP hS dX3_positionOf_21
  refine k_ic (x := 0) hx hb dX3_positionOf_0 (by decide) ?_
  refine lv_istore_n (lv' := [(2, .int (nI 0)), (0, .ref (a 0)), (1, .int (nI nd))]) hx hb dX3_positionOf_1 rfl hl (by decide) rfl (fun ls hl => ?_)
  exact loop (p + 1) 0 (by omega) (by omega) ls (lv_sub hl [0, 1, 2] rfl)
set_option maxHeartbeats 4000000 in
set_option maxRecDepth 100000 in
/-- positionOf -/
theorem c_X3_positionOf_no (l : Launch) {g : GG} {a : Nat → Nat} {n : Nat} {A : Nat → Prop} (hA : Ap A a (5 + 7 * n)) (hn6 : n ≤ 6) {s : CS} {nd : Nat} (hs : Sh n s) (hnd : nd < n) (hno : ∀ k, k < s 1 0 0 → s 0 0 k ≠ nd) : Met l yX3_positionOf wsX3_positionOf ({ frames := 0, cells := 0, slots := 0, locals := 0 }) (pC g [.ref (a 0), .int (nI nd)] (wC g a n s)) (qI g (-1) (wC g a n s) A) 0 0 A := by
  refine k_start (cc := cX3_positionOf) (maxL := 3) (ret := (some .int)) (by decide) rfl (Nat.le_of_ble_eq_true rfl) ?_
  intro pr en s0 m args below meth cd hx hb hml hr hlk hts hown hin hC hP ls hl
  have hS : va_S A s0.heap s0.heap [] := va_S.rf
  have hfx : CallFix pr m cd cX3_positionOf 3 s0 args wsX3_positionOf RX3 := ⟨hx, hb, hml, hown, hts⟩
  have hu3 : ∀ w ∈ wsX30, w.before args s0 = true := fun w h => hts w ((by decide +kernel : ∀ w ∈ wsX30, w ∈ wsX3_positionOf) w h)
  have hl : lv_has ls 3 [(0, .ref (a 0)), (1, .int (nI nd))] := hl
  have f0 := hs.len
  have loop : ∀ (d k : Nat), s 1 0 0 + 1 ≤ k + d → k ≤ s 1 0 0 → ∀ ls : Array Slot, lv_has ls 3 [(2, .int (nI k)), (0, .ref (a 0)), (1, .int (nI nd))] → W pr l en ({ frames := 0, cells := 0, slots := 0, locals := 0 }) s0 m args below meth cd s0.heap [] 0 0 (MQ below (qI g (-1) (wC g a n s) A) args s0 0 0 A) (F0 m 2 ls []) := by
    intro d
    induction d with
    | zero => intro k h1 h2; exact absurd h1 (by omega)
    | succ d ih =>
      intro k h1 h2 ls hl
      refine lv_iload_n hx hb dX3_positionOf_2 rfl (lv_at hl 0 rfl) ?_
      refine lv_aload_n hx hb dX3_positionOf_3 rfl (lv_at hl 1 rfl) ?_
      refine va_get (D := g.1) (C := RX3) (T := TX3) (N := 6) (ci := 3) hx hb hu3 (fun _ h => h) hown hC.1 hP _ (wC_obj) rfl 2 (by decide) (hts (.fieldLink RX3 29 "SplicedChain" "chainLength" "I") (by decide +kernel)) (fun _ h9 => h9) rfl dX3_positionOf_4 ?_
      refine k_icmp_ge (tgt := 28) hx hb dX3_positionOf_7 (by decide) (by omega) (by omega) (fun c7 => ?_) (fun c7 => ?_)
      · skip
        refine lv_iconst (v := -1) hx hb dX3_positionOf_28 (by decide) ?_
        exact k_iret hx hb hr hlk (by rfl) hP hS dX3_positionOf_29
      · skip
        have f1 := hs.ch k (by omega)
        refine lv_aload_n hx hb dX3_positionOf_10 rfl (lv_at hl 1 rfl) ?_
        refine va_get (D := g.1) (C := RX3) (T := TX3) (N := 6) (ci := 3) hx hb hu3 (fun _ h => h) hown hC.1 hP _ (wC_obj) rfl 1 (by decide) (hts (.fieldLink RX3 26 "SplicedChain" "chain" "[I") (by decide +kernel)) (fun _ h9 => h9) rfl dX3_positionOf_11 ?_
        refine lv_iload_n hx hb dX3_positionOf_14 rfl (lv_at hl 0 rfl) ?_
        refine k_iald hx hb hC hP _ (wC_chain) (j := k) (by omega) (by omega) dX3_positionOf_15 ?_
        refine lv_iload_n hx hb dX3_positionOf_16 rfl (lv_at hl 2 rfl) ?_
        refine k_icmp_ne (tgt := 22) hx hb dX3_positionOf_17 (by decide) (by omega) (by omega) (fun c17 => ?_) (fun c17 => ?_)
        · skip
          refine lv_iinc (v := nI (k + 1)) (lv' := [(2, .int (nI (k + 1))), (0, .ref (a 0)), (1, .int (nI nd))]) hx hb dX3_positionOf_22 hl (k := 0) rfl (nI_add _ _) (by decide) rfl (fun ls hl => ?_)
          refine lv_goto (tgt := 2) hx hb dX3_positionOf_25 (by decide) ?_
          exact ih (k + 1) (by omega) (by omega) ls (lv_sub hl [0, 1, 2] rfl)
        · exact absurd c17 (hno k (by omega))
  refine k_ic (x := 0) hx hb dX3_positionOf_0 (by decide) ?_
  refine lv_istore_n (lv' := [(2, .int (nI 0)), (0, .ref (a 0)), (1, .int (nI nd))]) hx hb dX3_positionOf_1 rfl hl (by decide) rfl (fun ls hl => ?_)
  exact loop (s 1 0 0 + 1) 0 (by omega) (by omega) ls (lv_sub hl [0, 1, 2] rfl)
def cntS (s : CS) : Nat → Nat
  | 0 => 0
  | k + 1 => cntS s k + (if s 7 k 0 = 0 then 1 else 0)
theorem cntS_le (s : CS) : ∀ k, cntS s k ≤ k
  | 0 => Nat.le_refl 0
  | k + 1 => by have := cntS_le s k; simp only [cntS]; split <;> omega
set_option maxHeartbeats 4000000 in
set_option maxRecDepth 100000 in
/-- countStanding -/
theorem c_X3_countStanding (l : Launch) {g : GG} {a : Nat → Nat} {n : Nat} {A : Nat → Prop} (hA : Ap A a (5 + 7 * n)) (hn6 : n ≤ 6) {s : CS} (hs : Sh n s) : Met l yX3_countStanding wsX3_countStanding ({ frames := 0, cells := 0, slots := 0, locals := 0 }) (pC g [.ref (a 0)] (wC g a n s)) (qI g (nI (cntS s n)) (wC g a n s) A) 0 0 A := by
  refine k_start (cc := cX3_countStanding) (maxL := 3) (ret := (some .int)) (by decide) rfl (Nat.le_of_ble_eq_true rfl) ?_
  intro pr en s0 m args below meth cd hx hb hml hr hlk hts hown hin hC hP ls hl
  have hS : va_S A s0.heap s0.heap [] := va_S.rf
  have hfx : CallFix pr m cd cX3_countStanding 3 s0 args wsX3_countStanding RX3 := ⟨hx, hb, hml, hown, hts⟩
  have hu3 : ∀ w ∈ wsX30, w.before args s0 = true := fun w h => hts w ((by decide +kernel : ∀ w ∈ wsX30, w ∈ wsX3_countStanding) w h)
  have hu1 : ∀ w ∈ wsX10, w.before args s0 = true := fun w h => hts w ((by decide +kernel : ∀ w ∈ wsX10, w ∈ wsX3_countStanding) w h)
  have hl : lv_has ls 3 [(0, .ref (a 0))] := hl
  have loop : ∀ (d k : Nat), n + 1 ≤ k + d → k ≤ n → ∀ ls : Array Slot, lv_has ls 3 [(2, .int (nI k)), (1, .int (nI (cntS s k))), (0, .ref (a 0))] → W pr l en ({ frames := 0, cells := 0, slots := 0, locals := 0 }) s0 m args below meth cd s0.heap [] 0 0 (MQ below (qI g (nI (cntS s n)) (wC g a n s) A) args s0 0 0 A) (F0 m 4 ls []) := by
    intro d
    induction d with
    | zero => intro k h1 h2; exact absurd h1 (by omega)
    | succ d ih =>
      intro k h1 h2 ls hl
      refine lv_iload_n hx hb dX3_countStanding_4 rfl (lv_at hl 0 rfl) ?_
      refine lv_aload_n hx hb dX3_countStanding_5 rfl (lv_at hl 2 rfl) ?_
      refine va_get (D := g.1) (C := RX3) (T := TX3) (N := 6) (ci := 3) hx hb hu3 (fun _ h => h) hown hC.1 hP _ (wC_obj) rfl 0 (by decide) (hts (.fieldLink RX3 22 "SplicedChain" "nodes" "[LSplicedChain$Node;") (by decide +kernel)) (fun _ h9 => h9) rfl dX3_countStanding_6 ?_
      refine va_alen hx hb hC.1 hP _ 2 (wC_nodes) rfl (v := nI n) rfl dX3_countStanding_9 ?_
      refine k_icmp_ge (tgt := 34) hx hb dX3_countStanding_10 (by decide) (by omega) (by omega) (fun c10 => ?_) (fun c10 => ?_)
      · skip
        refine lv_iload_n hx hb dX3_countStanding_34 rfl (lv_at hl 1 rfl) ?_
        exact k_iret hx hb hr hlk (by rw [show k = n by omega]) hP hS dX3_countStanding_35
      · skip
        have f1 := hs.nd k (by omega)
        refine lv_aload_n hx hb dX3_countStanding_13 rfl (lv_at hl 2 rfl) ?_
        refine va_get (D := g.1) (C := RX3) (T := TX3) (N := 6) (ci := 3) hx hb hu3 (fun _ h => h) hown hC.1 hP _ (wC_obj) rfl 0 (by decide) (hts (.fieldLink RX3 22 "SplicedChain" "nodes" "[LSplicedChain$Node;") (by decide +kernel)) (fun _ h9 => h9) rfl dX3_countStanding_14 ?_
        refine lv_iload_n hx hb dX3_countStanding_17 rfl (lv_at hl 0 rfl) ?_
        refine k_aald (x := a (7 * k + 5)) hx hb hC hP _ (wC_nodes) (j := k) (by omega) (by omega) (by simp; omega) dX3_countStanding_18 ?_
        refine va_getN (D := g.1) (C := RX1) (T := TX1) (N := 5) (ci := 1) hx hb hu1 (fun _ h => h) hown hC.1 hP _ (wC_node (i := k) (by omega)) rfl 4 (by decide) (hC.F (i := 48) (r := RX1) (n := "failed") (d := "Z") (by decide +kernel)) (fun _ h9 => h9) rfl dX3_countStanding_19 ?_
        refine k_if_ne (tgt := 28) hx hb dX3_countStanding_22 (by decide) (by omega) (fun c22 => ?_) (fun c22 => ?_)
        · skip
          refine lv_iinc (v := nI (k + 1)) (lv' := [(2, .int (nI (k + 1))), (1, .int (nI (cntS s k))), (0, .ref (a 0))]) hx hb dX3_countStanding_28 hl (k := 0) rfl (nI_add _ _) (by decide) rfl (fun ls hl => ?_)
          refine lv_goto (tgt := 4) hx hb dX3_countStanding_31 (by decide) ?_
          exact ih (k + 1) (by omega) (by omega) ls (by rw [show cntS s (k + 1) = cntS s k by simp [cntS, c22]]; exact lv_sub hl [0, 1, 2] rfl)
        · skip
          refine lv_iinc (v := nI (cntS s k + 1)) (lv' := [(1, .int (nI (cntS s k + 1))), (2, .int (nI k)), (0, .ref (a 0))]) hx hb dX3_countStanding_25 hl (k := 1) rfl (nI_add _ _) (by decide) rfl (fun ls hl => ?_)
          refine lv_iinc (v := nI (k + 1)) (lv' := [(2, .int (nI (k + 1))), (1, .int (nI (cntS s k + 1))), (0, .ref (a 0))]) hx hb dX3_countStanding_28 hl (k := 1) rfl (nI_add _ _) (by decide) rfl (fun ls hl => ?_)
          refine lv_goto (tgt := 4) hx hb dX3_countStanding_31 (by decide) ?_
          exact ih (k + 1) (by omega) (by omega) ls (by rw [show cntS s (k + 1) = cntS s k + 1 by simp [cntS, c22]]; exact lv_sub hl [0, 1, 2] rfl)
  refine k_ic (x := 0) hx hb dX3_countStanding_0 (by decide) ?_
  refine lv_istore_n (lv' := [(1, .int (nI 0)), (0, .ref (a 0))]) hx hb dX3_countStanding_1 rfl hl (by decide) rfl (fun ls hl => ?_)
  refine k_ic (x := 0) hx hb dX3_countStanding_2 (by decide) ?_
  refine lv_istore_n (lv' := [(2, .int (nI 0)), (1, .int (nI 0)), (0, .ref (a 0))]) hx hb dX3_countStanding_3 rfl hl (by decide) rfl (fun ls hl => ?_)
  exact loop (n + 1) 0 (by omega) (by omega) ls (lv_sub hl [0, 1, 2] rfl)
set_option maxHeartbeats 4000000 in
set_option maxRecDepth 100000 in
/-- updatesTowards -/
theorem c_X3_updatesTowards (l : Launch) {g : GG} {a : Nat → Nat} {n : Nat} {A : Nat → Prop} (hA : Ap A a (5 + 7 * n)) (hn6 : n ≤ 6) {s : CS} {p : Nat} (hs : Sh n s) (hp : p < s 1 0 0) : Met l yX3_updatesTowards wsX3_updatesTowards ({ frames := 1, cells := 0, slots := 0, locals := 21 }) (pC g [.ref (a 0), .int (nI p)] (wC g a n s)) (qI g (nI (if 0 < p then s 10 (2 * s 0 0 (p - 1) + 0) 0 else 0)) (wC g a n s) A) 0 0 A := by
  refine k_start (cc := cX3_updatesTowards) (maxL := 2) (ret := (some .int)) (by decide) rfl (Nat.le_of_ble_eq_true rfl) ?_
  intro pr en s0 m args below meth cd hx hb hml hr hlk hts hown hin hC hP ls hl
  have hS : va_S A s0.heap s0.heap [] := va_S.rf
  have hfx : CallFix pr m cd cX3_updatesTowards 2 s0 args wsX3_updatesTowards RX3 := ⟨hx, hb, hml, hown, hts⟩
  have hu1 : ∀ w ∈ wsX10, w.before args s0 = true := fun w h => hts w ((by decide +kernel : ∀ w ∈ wsX10, w ∈ wsX3_updatesTowards) w h)
  have hu0 : ∀ w ∈ wsX00, w.before args s0 = true := fun w h => hts w ((by decide +kernel : ∀ w ∈ wsX00, w ∈ wsX3_updatesTowards) w h)
  have hu2 : ∀ w ∈ wsX20, w.before args s0 = true := fun w h => hts w ((by decide +kernel : ∀ w ∈ wsX20, w ∈ wsX3_updatesTowards) w h)
  have hl : lv_has ls 2 [(0, .ref (a 0)), (1, .int (nI p))] := hl
  have f0 := hs.len
  have f1 := hs.ch (p - 1) (by omega)
  refine lv_iload_n hx hb dX3_updatesTowards_0 rfl (lv_at hl 1 rfl) ?_
  refine k_if_le (tgt := 23) hx hb dX3_updatesTowards_1 (by decide) (by omega) (fun c1 => ?_) (fun c1 => ?_)
  · skip
    refine k_ic (x := 0) hx hb dX3_updatesTowards_23 (by decide) ?_
    exact k_iret hx hb hr hlk (by first | rw [if_pos (by omega)] | rw [if_neg (by omega)]) hP hS dX3_updatesTowards_24
  · skip
    refine lv_aload_n hx hb dX3_updatesTowards_4 rfl (lv_at hl 0 rfl) ?_
    refine lv_iload_n hx hb dX3_updatesTowards_5 rfl (lv_at hl 1 rfl) ?_
    refine k_ic (x := 1) hx hb dX3_updatesTowards_6 (by decide) ?_
    refine k_isub (x := p) (y := 1) hx hb (by omega) dX3_updatesTowards_7 ?_
    refine kV_r (r := a (7 * (s 0 0 (p - 1)) + 5)) (w2 := wC g a n s) (As := [.int (nI (p - 1))]) (b := a 0) (rest := []) (A1 := A) hfx (c_X3_nodeAt l hA hn6 (s := s) (p := p - 1) (x := s 0 0 (p - 1)) (rfl) (by omega) (by omega)) (cwV 1 hts gX3_updatesTowards_X3_nodeAt rfl rfl rfl (by decide +kernel) ⟨by decide, by decide⟩) (va_recv hC.1 hP (ci := 3) rfl (wC_obj)) hC hP hS (fun _ h => h) rfl hl.1 rfl (Nat.le_of_ble_eq_true rfl) dX3_updatesTowards_8 ⟨Nat.le_of_ble_eq_true rfl, Nat.le_of_ble_eq_true rfl⟩ (fun H locs hP hS _ _ => ?_)
    refine va_getN (D := g.1) (C := RX1) (T := TX1) (N := 5) (ci := 1) hx hb hu1 (fun _ h => h) hown hC.1 hP _ (wC_node (i := (s 0 0 (p - 1))) (by omega)) rfl 1 (by decide) (hC.F (i := 88) (r := RX1) (n := "link") (d := "LSplicedChain$Link;") (by decide +kernel)) (fun _ h9 => h9) rfl dX3_updatesTowards_11 ?_
    refine va_getN (D := g.1) (C := RX0) (T := TX0) (N := 3) (ci := 0) hx hb hu0 (fun _ h => h) hown hC.1 hP _ (wC_link (i := (s 0 0 (p - 1))) (by omega)) rfl 0 (by decide) (hC.F (i := 92) (r := RX0) (n := "updates") (d := "LSplicedChain$Queue;") (by decide +kernel)) (fun _ h9 => h9) rfl dX3_updatesTowards_14 ?_
    refine va_getN (D := g.1) (C := RX2) (T := TX2) (N := 3) (ci := 2) hx hb hu2 (fun _ h => h) hown hC.1 hP _ (wC_q (i := (s 0 0 (p - 1))) (w := 0) (by omega) (by decide)) rfl 2 (by decide) (hC.F (i := 154) (r := RX2) (n := "size") (d := "I") (by decide +kernel)) (fun _ h9 => h9) rfl dX3_updatesTowards_17 ?_
    refine lv_goto (tgt := 24) hx hb dX3_updatesTowards_20 (by decide) ?_
    exact k_iret hx hb hr hlk (by first | rw [if_pos (by omega)] | rw [if_neg (by omega)]) hP hS dX3_updatesTowards_24
set_option maxHeartbeats 4000000 in
set_option maxRecDepth 100000 in
/-- updatesTowards nowhere -/
theorem c_X3_updatesTowards_no (l : Launch) {g : GG} {a : Nat → Nat} {n : Nat} {A : Nat → Prop} (hA : Ap A a (5 + 7 * n)) (hn6 : n ≤ 6) {s : CS}  : Met l yX3_updatesTowards wsX3_updatesTowards ({ frames := 1, cells := 0, slots := 0, locals := 21 }) (pC g [.ref (a 0), .int (-1)] (wC g a n s)) (qI g (nI 0) (wC g a n s) A) 0 0 A := by
  refine k_start (cc := cX3_updatesTowards) (maxL := 2) (ret := (some .int)) (by decide) rfl (Nat.le_of_ble_eq_true rfl) ?_
  intro pr en s0 m args below meth cd hx hb hml hr hlk hts hown hin hC hP ls hl
  have hS : va_S A s0.heap s0.heap [] := va_S.rf
  have hfx : CallFix pr m cd cX3_updatesTowards 2 s0 args wsX3_updatesTowards RX3 := ⟨hx, hb, hml, hown, hts⟩
  have hl : lv_has ls 2 [(0, .ref (a 0)), (1, .int (-1))] := hl
  refine lv_iload_n hx hb dX3_updatesTowards_0 rfl (lv_at hl 1 rfl) ?_
  refine lv_if_le (tgt := 23) hx hb dX3_updatesTowards_1 (by decide) (fun c1 => ?_) (fun c1 => ?_)
  · skip
    refine k_ic (x := 0) hx hb dX3_updatesTowards_23 (by decide) ?_
    exact k_iret hx hb hr hlk (by rfl) hP hS dX3_updatesTowards_24
  · exact absurd (by decide) c1
set_option maxHeartbeats 4000000 in
set_option maxRecDepth 100000 in
/-- acknowledgementsTowards -/
theorem c_X3_acknowledgementsTowards (l : Launch) {g : GG} {a : Nat → Nat} {n : Nat} {A : Nat → Prop} (hA : Ap A a (5 + 7 * n)) (hn6 : n ≤ 6) {s : CS} {p : Nat} (hs : Sh n s) (hp : p < s 1 0 0) : Met l yX3_acknowledgementsTowards wsX3_acknowledgementsTowards ({ frames := 1, cells := 0, slots := 0, locals := 21 }) (pC g [.ref (a 0), .int (nI p)] (wC g a n s)) (qI g (nI (if p + 1 = s 1 0 0 then 0 else s 10 (2 * s 0 0 p + 1) 0)) (wC g a n s) A) 0 0 A := by
  refine k_start (cc := cX3_acknowledgementsTowards) (maxL := 3) (ret := (some .int)) (by decide) rfl (Nat.le_of_ble_eq_true rfl) ?_
  intro pr en s0 m args below meth cd hx hb hml hr hlk hts hown hin hC hP ls hl
  have hS : va_S A s0.heap s0.heap [] := va_S.rf
  have hfx : CallFix pr m cd cX3_acknowledgementsTowards 3 s0 args wsX3_acknowledgementsTowards RX3 := ⟨hx, hb, hml, hown, hts⟩
  have hu1 : ∀ w ∈ wsX10, w.before args s0 = true := fun w h => hts w ((by decide +kernel : ∀ w ∈ wsX10, w ∈ wsX3_acknowledgementsTowards) w h)
  have hu0 : ∀ w ∈ wsX00, w.before args s0 = true := fun w h => hts w ((by decide +kernel : ∀ w ∈ wsX00, w ∈ wsX3_acknowledgementsTowards) w h)
  have hu2 : ∀ w ∈ wsX20, w.before args s0 = true := fun w h => hts w ((by decide +kernel : ∀ w ∈ wsX20, w ∈ wsX3_acknowledgementsTowards) w h)
  have hl : lv_has ls 3 [(0, .ref (a 0)), (1, .int (nI p))] := hl
  have f0 := hs.len
  have f1 := hs.ch p (by omega)
  have fm : ¬ nI p = -1 := nI_m1 (by omega)
  refine lv_iload_n hx hb dX3_acknowledgementsTowards_0 rfl (lv_at hl 1 rfl) ?_
  refine lv_iconst (v := -1) hx hb dX3_acknowledgementsTowards_1 (by decide) ?_
  refine lv_icmp_eq (tgt := 17) hx hb dX3_acknowledgementsTowards_2 (by decide) (fun c2 => ?_) (fun c2 => ?_)
  · exact absurd c2 fm
  · skip
    refine lv_aload_n hx hb dX3_acknowledgementsTowards_5 rfl (lv_at hl 0 rfl) ?_
    refine lv_iload_n hx hb dX3_acknowledgementsTowards_6 rfl (lv_at hl 1 rfl) ?_
    refine kV_i (r := nI (if p + 1 = s 1 0 0 then 1 else 0)) (w2 := wC g a n s) (As := [.int (nI p)]) (b := a 0) (rest := []) (A1 := A) hfx (c_X3_isTailAt l hA hn6 (s := s) (p := p) (L := s 1 0 0) (rfl) (by omega) (by omega)) (cwV 1 hts gX3_acknowledgementsTowards_X3_isTailAt rfl rfl rfl (by decide +kernel) ⟨by decide, by decide⟩) (va_recv hC.1 hP (ci := 3) rfl (wC_obj)) hC hP hS (fun _ h => h) rfl hl.1 rfl (Nat.le_of_ble_eq_true rfl) dX3_acknowledgementsTowards_7 ⟨Nat.le_of_ble_eq_true rfl, Nat.le_of_ble_eq_true rfl⟩ (fun H locs hP hS _ _ => ?_)
    have fT7 : (if p + 1 = s 1 0 0 then 1 else 0) ≤ 1 := by split <;> omega
    refine k_if_ne (tgt := 17) hx hb dX3_acknowledgementsTowards_10 (by decide) (by omega) (fun c10 => ?_) (fun c10 => ?_)
    · skip
      have f3 : p + 1 = s 1 0 0 := by rcases Nat.decEq (p + 1) (s 1 0 0) with q | q; simp [q] at c10; exact q
      refine k_ic (x := 0) hx hb dX3_acknowledgementsTowards_17 (by decide) ?_
      refine lv_istore_n (lv' := [(2, .int (nI 0)), (0, .ref (a 0)), (1, .int (nI p))]) hx hb dX3_acknowledgementsTowards_18 rfl hl (by decide) rfl (fun ls hl => ?_)
      refine lv_iload_n hx hb dX3_acknowledgementsTowards_19 rfl (lv_at hl 0 rfl) ?_
      refine k_if_eq (tgt := 40) hx hb dX3_acknowledgementsTowards_20 (by decide) (by omega) (fun c20 => ?_) (fun c20 => ?_)
      · skip
        refine k_ic (x := 0) hx hb dX3_acknowledgementsTowards_40 (by decide) ?_
        exact k_iret hx hb hr hlk (by first | rw [if_pos (by omega)] | rw [if_neg (by omega)]) hP hS dX3_acknowledgementsTowards_41
      · exfalso; omega
    · skip
      have f3 : ¬ p + 1 = s 1 0 0 := by intro q; simp [q] at c10
      refine k_ic (x := 1) hx hb dX3_acknowledgementsTowards_13 (by decide) ?_
      refine lv_goto (tgt := 18) hx hb dX3_acknowledgementsTowards_14 (by decide) ?_
      refine lv_istore_n (lv' := [(2, .int (nI 1)), (0, .ref (a 0)), (1, .int (nI p))]) hx hb dX3_acknowledgementsTowards_18 rfl hl (by decide) rfl (fun ls hl => ?_)
      refine lv_iload_n hx hb dX3_acknowledgementsTowards_19 rfl (lv_at hl 0 rfl) ?_
      refine k_if_eq (tgt := 40) hx hb dX3_acknowledgementsTowards_20 (by decide) (by omega) (fun c20 => ?_) (fun c20 => ?_)
      · exfalso; omega
      · skip
        refine lv_aload_n hx hb dX3_acknowledgementsTowards_23 rfl (lv_at hl 1 rfl) ?_
        refine lv_iload_n hx hb dX3_acknowledgementsTowards_24 rfl (lv_at hl 2 rfl) ?_
        refine kV_r (r := a (7 * (s 0 0 p) + 5)) (w2 := wC g a n s) (As := [.int (nI p)]) (b := a 0) (rest := []) (A1 := A) hfx (c_X3_nodeAt l hA hn6 (s := s) (p := p) (x := s 0 0 p) (rfl) (by omega) (by omega)) (cwV 1 hts gX3_acknowledgementsTowards_X3_nodeAt rfl rfl rfl (by decide +kernel) ⟨by decide, by decide⟩) (va_recv hC.1 hP (ci := 3) rfl (wC_obj)) hC hP hS (fun _ h => h) rfl hl.1 rfl (Nat.le_of_ble_eq_true rfl) dX3_acknowledgementsTowards_25 ⟨Nat.le_of_ble_eq_true rfl, Nat.le_of_ble_eq_true rfl⟩ (fun H locs hP hS _ _ => ?_)
        refine va_getN (D := g.1) (C := RX1) (T := TX1) (N := 5) (ci := 1) hx hb hu1 (fun _ h => h) hown hC.1 hP _ (wC_node (i := (s 0 0 p)) (by omega)) rfl 1 (by decide) (hC.F (i := 88) (r := RX1) (n := "link") (d := "LSplicedChain$Link;") (by decide +kernel)) (fun _ h9 => h9) rfl dX3_acknowledgementsTowards_28 ?_
        refine va_getN (D := g.1) (C := RX0) (T := TX0) (N := 3) (ci := 0) hx hb hu0 (fun _ h => h) hown hC.1 hP _ (wC_link (i := (s 0 0 p)) (by omega)) rfl 1 (by decide) (hC.F (i := 109) (r := RX0) (n := "acknowledgements") (d := "LSplicedChain$Queue;") (by decide +kernel)) (fun _ h9 => h9) rfl dX3_acknowledgementsTowards_31 ?_
        refine va_getN (D := g.1) (C := RX2) (T := TX2) (N := 3) (ci := 2) hx hb hu2 (fun _ h => h) hown hC.1 hP _ (wC_q (i := (s 0 0 p)) (w := 1) (by omega) (by decide)) rfl 2 (by decide) (hC.F (i := 154) (r := RX2) (n := "size") (d := "I") (by decide +kernel)) (fun _ h9 => h9) rfl dX3_acknowledgementsTowards_34 ?_
        refine lv_goto (tgt := 41) hx hb dX3_acknowledgementsTowards_37 (by decide) ?_
        exact k_iret hx hb hr hlk (by first | rw [if_pos (by omega)] | rw [if_neg (by omega)]) hP hS dX3_acknowledgementsTowards_41
set_option maxHeartbeats 4000000 in
set_option maxRecDepth 100000 in
/-- acknowledgementsTowards nowhere -/
theorem c_X3_acknowledgementsTowards_no (l : Launch) {g : GG} {a : Nat → Nat} {n : Nat} {A : Nat → Prop} (hA : Ap A a (5 + 7 * n)) (hn6 : n ≤ 6) {s : CS}  : Met l yX3_acknowledgementsTowards wsX3_acknowledgementsTowards ({ frames := 1, cells := 0, slots := 0, locals := 21 }) (pC g [.ref (a 0), .int (-1)] (wC g a n s)) (qI g (nI 0) (wC g a n s) A) 0 0 A := by
  refine k_start (cc := cX3_acknowledgementsTowards) (maxL := 3) (ret := (some .int)) (by decide) rfl (Nat.le_of_ble_eq_true rfl) ?_
  intro pr en s0 m args below meth cd hx hb hml hr hlk hts hown hin hC hP ls hl
  have hS : va_S A s0.heap s0.heap [] := va_S.rf
  have hfx : CallFix pr m cd cX3_acknowledgementsTowards 3 s0 args wsX3_acknowledgementsTowards RX3 := ⟨hx, hb, hml, hown, hts⟩
  have hl : lv_has ls 3 [(0, .ref (a 0)), (1, .int (-1))] := hl
  refine lv_iload_n hx hb dX3_acknowledgementsTowards_0 rfl (lv_at hl 1 rfl) ?_
  refine lv_iconst (v := -1) hx hb dX3_acknowledgementsTowards_1 (by decide) ?_
  refine lv_icmp_eq (tgt := 17) hx hb dX3_acknowledgementsTowards_2 (by decide) (fun c2 => ?_) (fun c2 => ?_)
  · skip
    refine k_ic (x := 0) hx hb dX3_acknowledgementsTowards_17 (by decide) ?_
    refine lv_istore_n (lv' := [(2, .int (nI 0)), (0, .ref (a 0)), (1, .int (-1))]) hx hb dX3_acknowledgementsTowards_18 rfl hl (by decide) rfl (fun ls hl => ?_)
    refine lv_iload_n hx hb dX3_acknowledgementsTowards_19 rfl (lv_at hl 0 rfl) ?_
    refine k_if_eq (tgt := 40) hx hb dX3_acknowledgementsTowards_20 (by decide) (by omega) (fun c20 => ?_) (fun c20 => ?_)
    · skip
      refine k_ic (x := 0) hx hb dX3_acknowledgementsTowards_40 (by decide) ?_
      exact k_iret hx hb hr hlk (by rfl) hP hS dX3_acknowledgementsTowards_41
    · exfalso; omega
  · exact absurd rfl c2
set_option maxHeartbeats 4000000 in
set_option maxRecDepth 100000 in
/-- acknowledgeAt -/
theorem c_X3_acknowledgeAt (l : Launch) {g : GG} {a : Nat → Nat} {n : Nat} {A : Nat → Prop} (hA : Ap A a (5 + 7 * n)) (hn6 : n ≤ 6) {s : CS} {p v : Nat} (hs : Sh n s) (hp : p < s 1 0 0) (hv : v ≤ 40) : Met l yX3_acknowledgeAt wsX3_acknowledgeAt ({ frames := 2, cells := 0, slots := 0, locals := 42 }) (pC g [.ref (a 0), .int (nI p), .int (nI v)] (wC g a n s)) (qV g (wC g a n (ackAt s p v)) A) 0 0 A := by
  refine k_start (cc := cX3_acknowledgeAt) (maxL := 3) (ret := none) (by decide) rfl (Nat.le_of_ble_eq_true rfl) ?_
  intro pr en s0 m args below meth cd hx hb hml hr hlk hts hown hin hC hP ls hl
  have hS : va_S A s0.heap s0.heap [] := va_S.rf
  have hfx : CallFix pr m cd cX3_acknowledgeAt 3 s0 args wsX3_acknowledgeAt RX3 := ⟨hx, hb, hml, hown, hts⟩
  have hu1 : ∀ w ∈ wsX10, w.before args s0 = true := fun w h => hts w ((by decide +kernel : ∀ w ∈ wsX10, w ∈ wsX3_acknowledgeAt) w h)
  have hu3 : ∀ w ∈ wsX30, w.before args s0 = true := fun w h => hts w ((by decide +kernel : ∀ w ∈ wsX30, w ∈ wsX3_acknowledgeAt) w h)
  have hl : lv_has ls 3 [(0, .ref (a 0)), (1, .int (nI p)), (2, .int (nI v))] := hl
  have f0 := hs.len
  have f1 := hs.ch p (by omega)
  have f2 := hs.ch (p - 1) (by omega)
  refine lv_aload_n hx hb dX3_acknowledgeAt_0 rfl (lv_at hl 0 rfl) ?_
  refine lv_iload_n hx hb dX3_acknowledgeAt_1 rfl (lv_at hl 1 rfl) ?_
  refine kV_r (r := a (7 * (s 0 0 p) + 5)) (w2 := wC g a n s) (As := [.int (nI p)]) (b := a 0) (rest := []) (A1 := A) hfx (c_X3_nodeAt l hA hn6 (s := s) (p := p) (x := s 0 0 p) (rfl) (by omega) (by omega)) (cwV 1 hts gX3_acknowledgeAt_X3_nodeAt rfl rfl rfl (by decide +kernel) ⟨by decide, by decide⟩) (va_recv hC.1 hP (ci := 3) rfl (wC_obj)) hC hP hS (fun _ h => h) rfl hl.1 rfl (Nat.le_of_ble_eq_true rfl) dX3_acknowledgeAt_2 ⟨Nat.le_of_ble_eq_true rfl, Nat.le_of_ble_eq_true rfl⟩ (fun H locs hP hS _ _ => ?_)
  refine lv_iload_n hx hb dX3_acknowledgeAt_5 rfl (lv_at hl 2 rfl) ?_
  refine va_putN (D := g.1) (v := .int (nI v)) (ty := .int) (C := RX1) (T := TX1) (N := 5) (ci := 1) hx hb hu1 (fun _ h => h) tyX1 tyX1_ok nmX1 hown hC.1 hP hA.D hS _ (wC_node (i := (s 0 0 p)) (by omega)) rfl 3 (by decide) (hC.F (i := 139) (r := RX1) (n := "acknowledged") (d := "I") (by decide +kernel)) (fun _ h9 => h9) rfl (by decide +kernel) rfl rfl (Nat.le_of_ble_eq_true rfl) dX3_acknowledgeAt_6 (fun H locs hP _ hS => ?_)
  have hP : va_P g.1 vwCl (wC g a n (w3 s 6 ((s 0 0 p)) 0 v)) H := P_eq (wp_ackd (i := (s 0 0 p))) hP
  refine lv_aload_n hx hb dX3_acknowledgeAt_9 rfl (lv_at hl 0 rfl) ?_
  refine lv_iload_n hx hb dX3_acknowledgeAt_10 rfl (lv_at hl 1 rfl) ?_
  refine kV_i (r := nI (if p + 1 = s 1 0 0 then 1 else 0)) (w2 := wC g a n (w3 s 6 ((s 0 0 p)) 0 v)) (As := [.int (nI p)]) (b := a 0) (rest := []) (A1 := A) hfx (c_X3_isTailAt l hA hn6 (s := (w3 s 6 ((s 0 0 p)) 0 v)) (p := p) (L := s 1 0 0) (by simp [w3]) (by omega) (by omega)) (cwV 1 hts gX3_acknowledgeAt_X3_isTailAt rfl rfl rfl (by decide +kernel) ⟨by decide, by decide⟩) (va_recv hC.1 hP (ci := 3) rfl (wC_obj)) hC hP hS (fun _ h => h) rfl hl.1 rfl (Nat.le_of_ble_eq_true rfl) dX3_acknowledgeAt_11 ⟨Nat.le_of_ble_eq_true rfl, Nat.le_of_ble_eq_true rfl⟩ (fun H locs hP hS _ _ => ?_)
  have fT11 : (if p + 1 = s 1 0 0 then 1 else 0) ≤ 1 := by split <;> omega
  refine k_if_eq (tgt := 22) hx hb dX3_acknowledgeAt_14 (by decide) (by omega) (fun c14 => ?_) (fun c14 => ?_)
  · skip
    have f3 : ¬ p + 1 = s 1 0 0 := by intro q; simp [q] at c14
    refine lv_iload_n hx hb dX3_acknowledgeAt_22 rfl (lv_at hl 1 rfl) ?_
    refine k_if_le (tgt := 40) hx hb dX3_acknowledgeAt_23 (by decide) (by omega) (fun c23 => ?_) (fun c23 => ?_)
    · skip
      exact k_vret hx hb hr hlk (P_eq (congrArg (wC g a n) (by simp only [ackAt]; (first | rw [if_pos (by omega)] | rw [if_neg (by omega)]); (first | rw [if_pos f3] | rw [if_neg f3]))) hP) hS dX3_acknowledgeAt_40
    · skip
      refine lv_aload_n hx hb dX3_acknowledgeAt_26 rfl (lv_at hl 0 rfl) ?_
      refine lv_iload_n hx hb dX3_acknowledgeAt_27 rfl (lv_at hl 1 rfl) ?_
      refine k_ic (x := 1) hx hb dX3_acknowledgeAt_28 (by decide) ?_
      refine k_isub (x := p) (y := 1) hx hb (by omega) dX3_acknowledgeAt_29 ?_
      refine kV_r (r := a (7 * (s 0 0 (p - 1)) + 5)) (w2 := wC g a n (w3 s 6 ((s 0 0 p)) 0 v)) (As := [.int (nI (p - 1))]) (b := a 0) (rest := []) (A1 := A) hfx (c_X3_nodeAt l hA hn6 (s := (w3 s 6 ((s 0 0 p)) 0 v)) (p := p - 1) (x := s 0 0 (p - 1)) (by simp [w3]) (by omega) (by omega)) (cwV 1 hts gX3_acknowledgeAt_X3_nodeAt rfl rfl rfl (by decide +kernel) ⟨by decide, by decide⟩) (va_recv hC.1 hP (ci := 3) rfl (wC_obj)) hC hP hS (fun _ h => h) rfl hl.1 rfl (Nat.le_of_ble_eq_true rfl) dX3_acknowledgeAt_30 ⟨Nat.le_of_ble_eq_true rfl, Nat.le_of_ble_eq_true rfl⟩ (fun H locs hP hS _ _ => ?_)
      refine va_getN (D := g.1) (C := RX1) (T := TX1) (N := 5) (ci := 1) hx hb hu1 (fun _ h => h) hown hC.1 hP _ (wC_node (i := (s 0 0 (p - 1))) (by omega)) rfl 1 (by decide) (hC.F (i := 88) (r := RX1) (n := "link") (d := "LSplicedChain$Link;") (by decide +kernel)) (fun _ h9 => h9) rfl dX3_acknowledgeAt_33 ?_
      refine lv_iload_n hx hb dX3_acknowledgeAt_36 rfl (lv_at hl 2 rfl) ?_
      refine kV_v (w2 := wC g a n (lput (w3 s 6 ((s 0 0 p)) 0 v) ((s 0 0 (p - 1))) 1 v)) (As := [.int (nI v)]) (b := a (7 * (s 0 0 (p - 1)) + 7)) (rest := []) (A1 := A) hfx (c_X0_putAcknowledgement l hA hn6 (s := (w3 s 6 ((s 0 0 p)) 0 v)) (i := (s 0 0 (p - 1))) (v := v) (by omega) (by first | exact (hs.m6 hv).m4 hv | exact hs.m6 hv)) (cwV 1 hts gX3_acknowledgeAt_X0_putAcknowledgement rfl rfl rfl (by decide +kernel) ⟨by decide, by decide⟩) (va_recv hC.1 hP (ci := 0) rfl (wC_link (i := (s 0 0 (p - 1))) (by omega))) hC hP hS (fun _ h => h) rfl hl.1 rfl (Nat.le_of_ble_eq_true rfl) dX3_acknowledgeAt_37 ⟨Nat.le_of_ble_eq_true rfl, Nat.le_of_ble_eq_true rfl⟩ (fun H locs hP hS _ _ => ?_)
      exact k_vret hx hb hr hlk (P_eq (congrArg (wC g a n) (by simp only [ackAt]; (first | rw [if_pos (by omega)] | rw [if_neg (by omega)]); (first | rw [if_pos f3] | rw [if_neg f3]))) hP) hS dX3_acknowledgeAt_40
  · skip
    have f3 : p + 1 = s 1 0 0 := by rcases Nat.decEq (p + 1) (s 1 0 0) with q | q; simp [q] at c14; exact q
    refine lv_aload_n hx hb dX3_acknowledgeAt_17 rfl (lv_at hl 0 rfl) ?_
    refine lv_iload_n hx hb dX3_acknowledgeAt_18 rfl (lv_at hl 2 rfl) ?_
    refine va_put (D := g.1) (v := .int (nI v)) (ty := .int) (C := RX3) (T := TX3) (N := 6) (ci := 3) hx hb hu3 (fun _ h => h) tyX3 tyX3_ok nmX3 hown hC.1 hP hA.D hS _ (wC_obj) rfl 5 (by decide) (hts (.fieldLink RX3 16 "SplicedChain" "replies" "I") (by decide +kernel)) (fun _ h9 => h9) rfl (by decide +kernel) rfl rfl (Nat.le_of_ble_eq_true rfl) dX3_acknowledgeAt_19 (fun H locs hP _ hS => ?_)
    have hP : va_P g.1 vwCl (wC g a n (w3 (w3 s 6 ((s 0 0 p)) 0 v) 4 0 0 v)) H := P_eq wp_repl hP
    refine lv_iload_n hx hb dX3_acknowledgeAt_22 rfl (lv_at hl 1 rfl) ?_
    refine k_if_le (tgt := 40) hx hb dX3_acknowledgeAt_23 (by decide) (by omega) (fun c23 => ?_) (fun c23 => ?_)
    · skip
      exact k_vret hx hb hr hlk (P_eq (congrArg (wC g a n) (by simp only [ackAt]; (first | rw [if_pos (by omega)] | rw [if_neg (by omega)]); (first | rw [if_pos f3] | rw [if_neg f3]))) hP) hS dX3_acknowledgeAt_40
    · skip
      refine lv_aload_n hx hb dX3_acknowledgeAt_26 rfl (lv_at hl 0 rfl) ?_
      refine lv_iload_n hx hb dX3_acknowledgeAt_27 rfl (lv_at hl 1 rfl) ?_
      refine k_ic (x := 1) hx hb dX3_acknowledgeAt_28 (by decide) ?_
      refine k_isub (x := p) (y := 1) hx hb (by omega) dX3_acknowledgeAt_29 ?_
      refine kV_r (r := a (7 * (s 0 0 (p - 1)) + 5)) (w2 := wC g a n (w3 (w3 s 6 ((s 0 0 p)) 0 v) 4 0 0 v)) (As := [.int (nI (p - 1))]) (b := a 0) (rest := []) (A1 := A) hfx (c_X3_nodeAt l hA hn6 (s := (w3 (w3 s 6 ((s 0 0 p)) 0 v) 4 0 0 v)) (p := p - 1) (x := s 0 0 (p - 1)) (by simp [w3]) (by omega) (by omega)) (cwV 1 hts gX3_acknowledgeAt_X3_nodeAt rfl rfl rfl (by decide +kernel) ⟨by decide, by decide⟩) (va_recv hC.1 hP (ci := 3) rfl (wC_obj)) hC hP hS (fun _ h => h) rfl hl.1 rfl (Nat.le_of_ble_eq_true rfl) dX3_acknowledgeAt_30 ⟨Nat.le_of_ble_eq_true rfl, Nat.le_of_ble_eq_true rfl⟩ (fun H locs hP hS _ _ => ?_)
      refine va_getN (D := g.1) (C := RX1) (T := TX1) (N := 5) (ci := 1) hx hb hu1 (fun _ h => h) hown hC.1 hP _ (wC_node (i := (s 0 0 (p - 1))) (by omega)) rfl 1 (by decide) (hC.F (i := 88) (r := RX1) (n := "link") (d := "LSplicedChain$Link;") (by decide +kernel)) (fun _ h9 => h9) rfl dX3_acknowledgeAt_33 ?_
      refine lv_iload_n hx hb dX3_acknowledgeAt_36 rfl (lv_at hl 2 rfl) ?_
      refine kV_v (w2 := wC g a n (lput (w3 (w3 s 6 ((s 0 0 p)) 0 v) 4 0 0 v) ((s 0 0 (p - 1))) 1 v)) (As := [.int (nI v)]) (b := a (7 * (s 0 0 (p - 1)) + 7)) (rest := []) (A1 := A) hfx (c_X0_putAcknowledgement l hA hn6 (s := (w3 (w3 s 6 ((s 0 0 p)) 0 v) 4 0 0 v)) (i := (s 0 0 (p - 1))) (v := v) (by omega) (by first | exact (hs.m6 hv).m4 hv | exact hs.m6 hv)) (cwV 1 hts gX3_acknowledgeAt_X0_putAcknowledgement rfl rfl rfl (by decide +kernel) ⟨by decide, by decide⟩) (va_recv hC.1 hP (ci := 0) rfl (wC_link (i := (s 0 0 (p - 1))) (by omega))) hC hP hS (fun _ h => h) rfl hl.1 rfl (Nat.le_of_ble_eq_true rfl) dX3_acknowledgeAt_37 ⟨Nat.le_of_ble_eq_true rfl, Nat.le_of_ble_eq_true rfl⟩ (fun H locs hP hS _ _ => ?_)
      exact k_vret hx hb hr hlk (P_eq (congrArg (wC g a n) (by simp only [ackAt]; (first | rw [if_pos (by omega)] | rw [if_neg (by omega)]); (first | rw [if_pos f3] | rw [if_neg f3]))) hP) hS dX3_acknowledgeAt_40
set_option maxHeartbeats 4000000 in
set_option maxRecDepth 100000 in
/-- applyAt -/
theorem c_X3_applyAt (l : Launch) {g : GG} {a : Nat → Nat} {n : Nat} {A : Nat → Prop} (hA : Ap A a (5 + 7 * n)) (hn6 : n ≤ 6) {s : CS} {p v : Nat} (hs : Sh n s) (hp : p < s 1 0 0) (hv : v ≤ 40) : Met l yX3_applyAt wsX3_applyAt ({ frames := 3, cells := 0, slots := 0, locals := 64 }) (pC g [.ref (a 0), .int (nI p), .int (nI v)] (wC g a n s)) (qV g (wC g a n (applyAt s p v)) A) 0 0 A := by
  refine k_start (cc := cX3_applyAt) (maxL := 4) (ret := none) (by decide) rfl (Nat.le_of_ble_eq_true rfl) ?_
  intro pr en s0 m args below meth cd hx hb hml hr hlk hts hown hin hC hP ls hl
  have hS : va_S A s0.heap s0.heap [] := va_S.rf
  have hfx : CallFix pr m cd cX3_applyAt 4 s0 args wsX3_applyAt RX3 := ⟨hx, hb, hml, hown, hts⟩
  have hu1 : ∀ w ∈ wsX10, w.before args s0 = true := fun w h => hts w ((by decide +kernel : ∀ w ∈ wsX10, w ∈ wsX3_applyAt) w h)
  have hu3 : ∀ w ∈ wsX30, w.before args s0 = true := fun w h => hts w ((by decide +kernel : ∀ w ∈ wsX30, w ∈ wsX3_applyAt) w h)
  have hl : lv_has ls 4 [(0, .ref (a 0)), (1, .int (nI p)), (2, .int (nI v))] := hl
  have f0 := hs.len
  have f1 := hs.ch p (by omega)
  have f2 := hs.key v hv
  refine lv_aload_n hx hb dX3_applyAt_0 rfl (lv_at hl 0 rfl) ?_
  refine lv_iload_n hx hb dX3_applyAt_1 rfl (lv_at hl 1 rfl) ?_
  refine kV_r (r := a (7 * (s 0 0 p) + 5)) (w2 := wC g a n s) (As := [.int (nI p)]) (b := a 0) (rest := []) (A1 := A) hfx (c_X3_nodeAt l hA hn6 (s := s) (p := p) (x := s 0 0 p) (rfl) (by omega) (by omega)) (cwV 1 hts gX3_applyAt_X3_nodeAt rfl rfl rfl (by decide +kernel) ⟨by decide, by decide⟩) (va_recv hC.1 hP (ci := 3) rfl (wC_obj)) hC hP hS (fun _ h => h) rfl hl.1 rfl (Nat.le_of_ble_eq_true rfl) dX3_applyAt_2 ⟨Nat.le_of_ble_eq_true rfl, Nat.le_of_ble_eq_true rfl⟩ (fun H locs hP hS _ _ => ?_)
  refine lv_astore_n (lv' := [(3, .ref (a (7 * (s 0 0 p) + 5))), (0, .ref (a 0)), (1, .int (nI p)), (2, .int (nI v))]) hx hb dX3_applyAt_5 rfl hl (by decide) rfl (fun ls hl => ?_)
  refine lv_aload_n hx hb dX3_applyAt_6 rfl (lv_at hl 0 rfl) ?_
  refine lv_iload_n hx hb dX3_applyAt_7 rfl (lv_at hl 3 rfl) ?_
  refine va_putN (D := g.1) (v := .int (nI v)) (ty := .int) (C := RX1) (T := TX1) (N := 5) (ci := 1) hx hb hu1 (fun _ h => h) tyX1 tyX1_ok nmX1 hown hC.1 hP hA.D hS _ (wC_node (i := (s 0 0 p)) (by omega)) rfl 2 (by decide) (hC.F (i := 52) (r := RX1) (n := "history") (d := "I") (by decide +kernel)) (fun _ h9 => h9) rfl (by decide +kernel) rfl rfl (Nat.le_of_ble_eq_true rfl) dX3_applyAt_8 (fun H locs hP _ hS => ?_)
  have hP : va_P g.1 vwCl (wC g a n (w3 s 5 ((s 0 0 p)) 0 v)) H := P_eq (wp_hist (i := (s 0 0 p))) hP
  refine lv_aload_n hx hb dX3_applyAt_11 rfl (lv_at hl 0 rfl) ?_
  refine va_getN (D := g.1) (C := RX1) (T := TX1) (N := 5) (ci := 1) hx hb hu1 (fun _ h => h) hown hC.1 hP _ (wC_node (i := (s 0 0 p)) (by omega)) rfl 0 (by decide) (hC.F (i := 66) (r := RX1) (n := "values") (d := "[I") (by decide +kernel)) (fun _ h9 => h9) rfl dX3_applyAt_12 ?_
  refine lv_aload_n hx hb dX3_applyAt_15 rfl (lv_at hl 1 rfl) ?_
  refine va_get (D := g.1) (C := RX3) (T := TX3) (N := 6) (ci := 3) hx hb hu3 (fun _ h => h) hown hC.1 hP _ (wC_obj) rfl 3 (by decide) (hts (.fieldLink RX3 9 "SplicedChain" "keyOfUpdate" "[I") (by decide +kernel)) (fun _ h9 => h9) rfl dX3_applyAt_16 ?_
  refine lv_iload_n hx hb dX3_applyAt_19 rfl (lv_at hl 3 rfl) ?_
  refine k_iald hx hb hC hP _ (wC_keys) (j := v) (by omega) (by omega) dX3_applyAt_20 ?_
  refine k_as (x := s 2 0 v) (by simp [w3]) ?_
  refine lv_aload_n hx hb dX3_applyAt_21 rfl (lv_at hl 1 rfl) ?_
  refine va_get (D := g.1) (C := RX3) (T := TX3) (N := 6) (ci := 3) hx hb hu3 (fun _ h => h) hown hC.1 hP _ (wC_obj) rfl 4 (by decide) (hts (.fieldLink RX3 13 "SplicedChain" "valueOfUpdate" "[I") (by decide +kernel)) (fun _ h9 => h9) rfl dX3_applyAt_22 ?_
  refine lv_iload_n hx hb dX3_applyAt_25 rfl (lv_at hl 3 rfl) ?_
  refine k_iald hx hb hC hP _ (wC_vs) (j := v) (by omega) (by omega) dX3_applyAt_26 ?_
  refine k_as (x := s 3 0 v) (by simp [w3]) ?_
  refine k_iast hx hb hC hP hA.D hS _ (wC_vals (i := (s 0 0 p)) (by omega)) (j := s 2 0 v) (by omega) (by omega) dX3_applyAt_27 (wp_vals (i := (s 0 0 p))) (fun H locs hP hS => ?_)
  refine lv_aload_n hx hb dX3_applyAt_28 rfl (lv_at hl 1 rfl) ?_
  refine lv_iload_n hx hb dX3_applyAt_29 rfl (lv_at hl 2 rfl) ?_
  refine kV_i (r := nI (if p + 1 = s 1 0 0 then 1 else 0)) (w2 := wC g a n (w3 (w3 s 5 ((s 0 0 p)) 0 v) 12 ((s 0 0 p)) (s 2 0 v) (s 3 0 v))) (As := [.int (nI p)]) (b := a 0) (rest := []) (A1 := A) hfx (c_X3_isTailAt l hA hn6 (s := (w3 (w3 s 5 ((s 0 0 p)) 0 v) 12 ((s 0 0 p)) (s 2 0 v) (s 3 0 v))) (p := p) (L := s 1 0 0) (by simp [w3]) (by omega) (by omega)) (cwV 1 hts gX3_applyAt_X3_isTailAt rfl rfl rfl (by decide +kernel) ⟨by decide, by decide⟩) (va_recv hC.1 hP (ci := 3) rfl (wC_obj)) hC hP hS (fun _ h => h) rfl hl.1 rfl (Nat.le_of_ble_eq_true rfl) dX3_applyAt_30 ⟨Nat.le_of_ble_eq_true rfl, Nat.le_of_ble_eq_true rfl⟩ (fun H locs hP hS _ _ => ?_)
  have fT30 : (if p + 1 = s 1 0 0 then 1 else 0) ≤ 1 := by split <;> omega
  refine k_if_eq (tgt := 45) hx hb dX3_applyAt_33 (by decide) (by omega) (fun c33 => ?_) (fun c33 => ?_)
  · skip
    have f3 : ¬ p + 1 = s 1 0 0 := by intro q; simp [q] at c33
    refine lv_aload_n hx hb dX3_applyAt_45 rfl (lv_at hl 0 rfl) ?_
    refine va_getN (D := g.1) (C := RX1) (T := TX1) (N := 5) (ci := 1) hx hb hu1 (fun _ h => h) hown hC.1 hP _ (wC_node (i := (s 0 0 p)) (by omega)) rfl 1 (by decide) (hC.F (i := 88) (r := RX1) (n := "link") (d := "LSplicedChain$Link;") (by decide +kernel)) (fun _ h9 => h9) rfl dX3_applyAt_46 ?_
    refine lv_iload_n hx hb dX3_applyAt_49 rfl (lv_at hl 3 rfl) ?_
    refine kV_v (w2 := wC g a n (lput (w3 (w3 s 5 ((s 0 0 p)) 0 v) 12 ((s 0 0 p)) (s 2 0 v) (s 3 0 v)) ((s 0 0 p)) 0 v)) (As := [.int (nI v)]) (b := a (7 * (s 0 0 p) + 7)) (rest := []) (A1 := A) hfx (c_X0_putUpdate l hA hn6 (s := (w3 (w3 s 5 ((s 0 0 p)) 0 v) 12 ((s 0 0 p)) (s 2 0 v) (s 3 0 v))) (i := (s 0 0 p)) (v := v) (by omega) ((hs.m5 hv).m12)) (cwV 1 hts gX3_applyAt_X0_putUpdate rfl rfl rfl (by decide +kernel) ⟨by decide, by decide⟩) (va_recv hC.1 hP (ci := 0) rfl (wC_link (i := (s 0 0 p)) (by omega))) hC hP hS (fun _ h => h) rfl hl.1 rfl (Nat.le_of_ble_eq_true rfl) dX3_applyAt_50 ⟨Nat.le_of_ble_eq_true rfl, Nat.le_of_ble_eq_true rfl⟩ (fun H locs hP hS _ _ => ?_)
    exact k_vret hx hb hr hlk (P_eq (congrArg (wC g a n) (by simp only [applyAt]; first | rw [if_pos f3] | rw [if_neg f3])) hP) hS dX3_applyAt_53
  · skip
    have f3 : p + 1 = s 1 0 0 := by rcases Nat.decEq (p + 1) (s 1 0 0) with q | q; simp [q] at c33; exact q
    refine lv_aload_n hx hb dX3_applyAt_36 rfl (lv_at hl 1 rfl) ?_
    refine lv_iload_n hx hb dX3_applyAt_37 rfl (lv_at hl 2 rfl) ?_
    refine lv_iload_n hx hb dX3_applyAt_38 rfl (lv_at hl 3 rfl) ?_
    refine kV_v (w2 := wC g a n (ackAt (w3 (w3 s 5 ((s 0 0 p)) 0 v) 12 ((s 0 0 p)) (s 2 0 v) (s 3 0 v)) p v)) (As := [.int (nI p), .int (nI v)]) (b := a 0) (rest := []) (A1 := A) hfx (c_X3_acknowledgeAt l hA hn6 (s := (w3 (w3 s 5 ((s 0 0 p)) 0 v) 12 ((s 0 0 p)) (s 2 0 v) (s 3 0 v))) (p := p) (v := v) ((hs.m5 hv).m12) (by simp [w3]; omega) (hv)) (cwV 2 hts gX3_applyAt_X3_acknowledgeAt rfl rfl rfl (by decide +kernel) ⟨by decide, by decide⟩) (va_recv hC.1 hP (ci := 3) rfl (wC_obj)) hC hP hS (fun _ h => h) rfl hl.1 rfl (Nat.le_of_ble_eq_true rfl) dX3_applyAt_39 ⟨Nat.le_of_ble_eq_true rfl, Nat.le_of_ble_eq_true rfl⟩ (fun H locs hP hS _ _ => ?_)
    refine lv_goto (tgt := 53) hx hb dX3_applyAt_42 (by decide) ?_
    exact k_vret hx hb hr hlk (P_eq (congrArg (wC g a n) (by simp only [applyAt]; first | rw [if_pos f3] | rw [if_neg f3])) hP) hS dX3_applyAt_53
set_option maxHeartbeats 4000000 in
set_option maxRecDepth 100000 in
/-- closeLinksAt -/
theorem c_X3_closeLinksAt (l : Launch) {g : GG} {a : Nat → Nat} {n : Nat} {A : Nat → Prop} (hA : Ap A a (5 + 7 * n)) (hn6 : n ≤ 6) {s : CS} {p : Nat} (hs : Sh n s) (hp : p < s 1 0 0) : Met l yX3_closeLinksAt wsX3_closeLinksAt ({ frames := 2, cells := 0, slots := 0, locals := 40 }) (pC g [.ref (a 0), .int (nI p)] (wC g a n s)) (qV g (wC g a n (if 0 < p then lclose (lclose s (s 0 0 p)) (s 0 0 (p - 1)) else lclose s (s 0 0 p))) A) 0 0 A := by
  refine k_start (cc := cX3_closeLinksAt) (maxL := 2) (ret := none) (by decide) rfl (Nat.le_of_ble_eq_true rfl) ?_
  intro pr en s0 m args below meth cd hx hb hml hr hlk hts hown hin hC hP ls hl
  have hS : va_S A s0.heap s0.heap [] := va_S.rf
  have hfx : CallFix pr m cd cX3_closeLinksAt 2 s0 args wsX3_closeLinksAt RX3 := ⟨hx, hb, hml, hown, hts⟩
  have hu1 : ∀ w ∈ wsX10, w.before args s0 = true := fun w h => hts w ((by decide +kernel : ∀ w ∈ wsX10, w ∈ wsX3_closeLinksAt) w h)
  have hl : lv_has ls 2 [(0, .ref (a 0)), (1, .int (nI p))] := hl
  have f0 := hs.len
  have f1 := hs.ch p (by omega)
  have f2 := hs.ch (p - 1) (by omega)
  have fm : ¬ nI p = -1 := nI_m1 (by omega)
  refine lv_iload_n hx hb dX3_closeLinksAt_0 rfl (lv_at hl 1 rfl) ?_
  refine lv_iconst (v := -1) hx hb dX3_closeLinksAt_1 (by decide) ?_
  refine lv_icmp_ne (tgt := 6) hx hb dX3_closeLinksAt_2 (by decide) (fun c2 => ?_) (fun c2 => ?_)
  · skip
    refine lv_aload_n hx hb dX3_closeLinksAt_6 rfl (lv_at hl 0 rfl) ?_
    refine lv_iload_n hx hb dX3_closeLinksAt_7 rfl (lv_at hl 1 rfl) ?_
    refine kV_r (r := a (7 * (s 0 0 p) + 5)) (w2 := wC g a n s) (As := [.int (nI p)]) (b := a 0) (rest := []) (A1 := A) hfx (c_X3_nodeAt l hA hn6 (s := s) (p := p) (x := s 0 0 p) (rfl) (by omega) (by omega)) (cwV 1 hts gX3_closeLinksAt_X3_nodeAt rfl rfl rfl (by decide +kernel) ⟨by decide, by decide⟩) (va_recv hC.1 hP (ci := 3) rfl (wC_obj)) hC hP hS (fun _ h => h) rfl hl.1 rfl (Nat.le_of_ble_eq_true rfl) dX3_closeLinksAt_8 ⟨Nat.le_of_ble_eq_true rfl, Nat.le_of_ble_eq_true rfl⟩ (fun H locs hP hS _ _ => ?_)
    refine va_getN (D := g.1) (C := RX1) (T := TX1) (N := 5) (ci := 1) hx hb hu1 (fun _ h => h) hown hC.1 hP _ (wC_node (i := (s 0 0 p)) (by omega)) rfl 1 (by decide) (hC.F (i := 88) (r := RX1) (n := "link") (d := "LSplicedChain$Link;") (by decide +kernel)) (fun _ h9 => h9) rfl dX3_closeLinksAt_11 ?_
    refine kV_v (w2 := wC g a n (lclose s ((s 0 0 p)))) (As := []) (b := a (7 * (s 0 0 p) + 7)) (rest := []) (A1 := A) hfx (c_X0_close l hA hn6 (s := s) (i := (s 0 0 p)) (by omega)) (cwV 0 hts gX3_closeLinksAt_X0_close rfl rfl rfl (by decide +kernel) ⟨by decide, by decide⟩) (va_recv hC.1 hP (ci := 0) rfl (wC_link (i := (s 0 0 p)) (by omega))) hC hP hS (fun _ h => h) rfl hl.1 rfl (Nat.le_of_ble_eq_true rfl) dX3_closeLinksAt_14 ⟨Nat.le_of_ble_eq_true rfl, Nat.le_of_ble_eq_true rfl⟩ (fun H locs hP hS _ _ => ?_)
    refine lv_iload_n hx hb dX3_closeLinksAt_17 rfl (lv_at hl 1 rfl) ?_
    refine k_if_le (tgt := 34) hx hb dX3_closeLinksAt_18 (by decide) (by omega) (fun c18 => ?_) (fun c18 => ?_)
    · skip
      exact k_vret hx hb hr hlk (P_eq (congrArg (wC g a n) (by first | rw [if_pos (by omega)] | rw [if_neg (by omega)])) hP) hS dX3_closeLinksAt_34
    · skip
      refine lv_aload_n hx hb dX3_closeLinksAt_21 rfl (lv_at hl 0 rfl) ?_
      refine lv_iload_n hx hb dX3_closeLinksAt_22 rfl (lv_at hl 1 rfl) ?_
      refine k_ic (x := 1) hx hb dX3_closeLinksAt_23 (by decide) ?_
      refine k_isub (x := p) (y := 1) hx hb (by omega) dX3_closeLinksAt_24 ?_
      refine kV_r (r := a (7 * (s 0 0 (p - 1)) + 5)) (w2 := wC g a n (lclose s ((s 0 0 p)))) (As := [.int (nI (p - 1))]) (b := a 0) (rest := []) (A1 := A) hfx (c_X3_nodeAt l hA hn6 (s := (lclose s ((s 0 0 p)))) (p := p - 1) (x := s 0 0 (p - 1)) (by simp [lclose, w3]) (by omega) (by omega)) (cwV 1 hts gX3_closeLinksAt_X3_nodeAt rfl rfl rfl (by decide +kernel) ⟨by decide, by decide⟩) (va_recv hC.1 hP (ci := 3) rfl (wC_obj)) hC hP hS (fun _ h => h) rfl hl.1 rfl (Nat.le_of_ble_eq_true rfl) dX3_closeLinksAt_25 ⟨Nat.le_of_ble_eq_true rfl, Nat.le_of_ble_eq_true rfl⟩ (fun H locs hP hS _ _ => ?_)
      refine va_getN (D := g.1) (C := RX1) (T := TX1) (N := 5) (ci := 1) hx hb hu1 (fun _ h => h) hown hC.1 hP _ (wC_node (i := (s 0 0 (p - 1))) (by omega)) rfl 1 (by decide) (hC.F (i := 88) (r := RX1) (n := "link") (d := "LSplicedChain$Link;") (by decide +kernel)) (fun _ h9 => h9) rfl dX3_closeLinksAt_28 ?_
      refine kV_v (w2 := wC g a n (lclose (lclose s ((s 0 0 p))) ((s 0 0 (p - 1))))) (As := []) (b := a (7 * (s 0 0 (p - 1)) + 7)) (rest := []) (A1 := A) hfx (c_X0_close l hA hn6 (s := (lclose s ((s 0 0 p)))) (i := (s 0 0 (p - 1))) (by omega)) (cwV 0 hts gX3_closeLinksAt_X0_close rfl rfl rfl (by decide +kernel) ⟨by decide, by decide⟩) (va_recv hC.1 hP (ci := 0) rfl (wC_link (i := (s 0 0 (p - 1))) (by omega))) hC hP hS (fun _ h => h) rfl hl.1 rfl (Nat.le_of_ble_eq_true rfl) dX3_closeLinksAt_31 ⟨Nat.le_of_ble_eq_true rfl, Nat.le_of_ble_eq_true rfl⟩ (fun H locs hP hS _ _ => ?_)
      exact k_vret hx hb hr hlk (P_eq (congrArg (wC g a n) (by first | rw [if_pos (by omega)] | rw [if_neg (by omega)])) hP) hS dX3_closeLinksAt_34
  · exact absurd c2 fm
set_option maxHeartbeats 4000000 in
set_option maxRecDepth 100000 in
/-- closeLinksAt nowhere -/
theorem c_X3_closeLinksAt_no (l : Launch) {g : GG} {a : Nat → Nat} {n : Nat} {A : Nat → Prop} (hA : Ap A a (5 + 7 * n)) (hn6 : n ≤ 6) {s : CS}  : Met l yX3_closeLinksAt wsX3_closeLinksAt ({ frames := 2, cells := 0, slots := 0, locals := 40 }) (pC g [.ref (a 0), .int (-1)] (wC g a n s)) (qV g (wC g a n s) A) 0 0 A := by
  refine k_start (cc := cX3_closeLinksAt) (maxL := 2) (ret := none) (by decide) rfl (Nat.le_of_ble_eq_true rfl) ?_
  intro pr en s0 m args below meth cd hx hb hml hr hlk hts hown hin hC hP ls hl
  have hS : va_S A s0.heap s0.heap [] := va_S.rf
  have hfx : CallFix pr m cd cX3_closeLinksAt 2 s0 args wsX3_closeLinksAt RX3 := ⟨hx, hb, hml, hown, hts⟩
  have hl : lv_has ls 2 [(0, .ref (a 0)), (1, .int (-1))] := hl
  refine lv_iload_n hx hb dX3_closeLinksAt_0 rfl (lv_at hl 1 rfl) ?_
  refine lv_iconst (v := -1) hx hb dX3_closeLinksAt_1 (by decide) ?_
  refine lv_icmp_ne (tgt := 6) hx hb dX3_closeLinksAt_2 (by decide) (fun c2 => ?_) (fun c2 => ?_)
  · exact absurd rfl c2
  · skip
    exact k_vret hx hb hr hlk hP hS dX3_closeLinksAt_5
set_option maxHeartbeats 4000000 in
set_option maxRecDepth 100000 in
/-- canResyncAt -/
theorem c_X3_canResyncAt (l : Launch) {g : GG} {a : Nat → Nat} {n : Nat} {A : Nat → Prop} (hA : Ap A a (5 + 7 * n)) (hn6 : n ≤ 6) {s : CS} {p : Nat} (hs : Sh n s) (hp : p < s 1 0 0) : Met l yX3_canResyncAt wsX3_canResyncAt ({ frames := 1, cells := 0, slots := 0, locals := 21 }) (pC g [.ref (a 0), .int (nI p)] (wC g a n s)) (qI g (nI (if p + 1 ≠ s 1 0 0 ∧ s 7 (s 0 0 p) 0 = 0 ∧ s 7 (s 0 0 (p + 1)) 0 = 0 ∧ s 8 (s 0 0 p) 0 = 0 then 1 else 0)) (wC g a n s) A) 0 0 A := by
  refine k_start (cc := cX3_canResyncAt) (maxL := 3) (ret := (some .boolean)) (by decide) rfl (Nat.le_of_ble_eq_true rfl) ?_
  intro pr en s0 m args below meth cd hx hb hml hr hlk hts hown hin hC hP ls hl
  have hS : va_S A s0.heap s0.heap [] := va_S.rf
  have hfx : CallFix pr m cd cX3_canResyncAt 3 s0 args wsX3_canResyncAt RX3 := ⟨hx, hb, hml, hown, hts⟩
  have hu1 : ∀ w ∈ wsX10, w.before args s0 = true := fun w h => hts w ((by decide +kernel : ∀ w ∈ wsX10, w ∈ wsX3_canResyncAt) w h)
  have hu0 : ∀ w ∈ wsX00, w.before args s0 = true := fun w h => hts w ((by decide +kernel : ∀ w ∈ wsX00, w ∈ wsX3_canResyncAt) w h)
  have hl : lv_has ls 3 [(0, .ref (a 0)), (1, .int (nI p))] := hl
  have f0 := hs.len
  have f1 := hs.ch p (by omega)
  have f4 := hs.nd _ f1
  have fm : ¬ nI p = -1 := nI_m1 (by omega)
  refine lv_iload_n hx hb dX3_canResyncAt_0 rfl (lv_at hl 1 rfl) ?_
  refine lv_iconst (v := -1) hx hb dX3_canResyncAt_1 (by decide) ?_
  refine lv_icmp_eq (tgt := 13) hx hb dX3_canResyncAt_2 (by decide) (fun c2 => ?_) (fun c2 => ?_)
  · exact absurd c2 fm
  · skip
    refine lv_aload_n hx hb dX3_canResyncAt_5 rfl (lv_at hl 0 rfl) ?_
    refine lv_iload_n hx hb dX3_canResyncAt_6 rfl (lv_at hl 1 rfl) ?_
    refine kV_i (r := nI (if p + 1 = s 1 0 0 then 1 else 0)) (w2 := wC g a n s) (As := [.int (nI p)]) (b := a 0) (rest := []) (A1 := A) hfx (c_X3_isTailAt l hA hn6 (s := s) (p := p) (L := s 1 0 0) (rfl) (by omega) (by omega)) (cwV 1 hts gX3_canResyncAt_X3_isTailAt rfl rfl rfl (by decide +kernel) ⟨by decide, by decide⟩) (va_recv hC.1 hP (ci := 3) rfl (wC_obj)) hC hP hS (fun _ h => h) rfl hl.1 rfl (Nat.le_of_ble_eq_true rfl) dX3_canResyncAt_7 ⟨Nat.le_of_ble_eq_true rfl, Nat.le_of_ble_eq_true rfl⟩ (fun H locs hP hS _ _ => ?_)
    have fT7 : (if p + 1 = s 1 0 0 then 1 else 0) ≤ 1 := by split <;> omega
    refine k_if_eq (tgt := 15) hx hb dX3_canResyncAt_10 (by decide) (by omega) (fun c10 => ?_) (fun c10 => ?_)
    · skip
      have f3 : ¬ p + 1 = s 1 0 0 := by intro q; simp [q] at c10
      refine lv_aload_n hx hb dX3_canResyncAt_15 rfl (lv_at hl 0 rfl) ?_
      refine lv_iload_n hx hb dX3_canResyncAt_16 rfl (lv_at hl 1 rfl) ?_
      refine kV_r (r := a (7 * (s 0 0 p) + 5)) (w2 := wC g a n s) (As := [.int (nI p)]) (b := a 0) (rest := []) (A1 := A) hfx (c_X3_nodeAt l hA hn6 (s := s) (p := p) (x := s 0 0 p) (rfl) (by omega) (by omega)) (cwV 1 hts gX3_canResyncAt_X3_nodeAt rfl rfl rfl (by decide +kernel) ⟨by decide, by decide⟩) (va_recv hC.1 hP (ci := 3) rfl (wC_obj)) hC hP hS (fun _ h => h) rfl hl.1 rfl (Nat.le_of_ble_eq_true rfl) dX3_canResyncAt_17 ⟨Nat.le_of_ble_eq_true rfl, Nat.le_of_ble_eq_true rfl⟩ (fun H locs hP hS _ _ => ?_)
      refine lv_astore_n (lv' := [(2, .ref (a (7 * (s 0 0 p) + 5))), (0, .ref (a 0)), (1, .int (nI p))]) hx hb dX3_canResyncAt_20 rfl hl (by decide) rfl (fun ls hl => ?_)
      refine lv_aload_n hx hb dX3_canResyncAt_21 rfl (lv_at hl 0 rfl) ?_
      refine va_getN (D := g.1) (C := RX1) (T := TX1) (N := 5) (ci := 1) hx hb hu1 (fun _ h => h) hown hC.1 hP _ (wC_node (i := (s 0 0 p)) (by omega)) rfl 4 (by decide) (hC.F (i := 48) (r := RX1) (n := "failed") (d := "Z") (by decide +kernel)) (fun _ h9 => h9) rfl dX3_canResyncAt_22 ?_
      refine k_if_ne (tgt := 55) hx hb dX3_canResyncAt_25 (by decide) (by omega) (fun c25 => ?_) (fun c25 => ?_)
      · skip
        refine k_ic (x := 0) hx hb dX3_canResyncAt_55 (by decide) ?_
        exact k_zret hx hb hr hlk (by first | rw [if_pos ⟨by omega, by omega, by omega, by omega⟩] | rw [if_neg (by omega)]) (by decide) hP hS dX3_canResyncAt_56
      · skip
        have f5 := hs.ch (p + 1) (by omega)
        have f6 := hs.nd _ f5
        refine lv_aload_n hx hb dX3_canResyncAt_28 rfl (lv_at hl 1 rfl) ?_
        refine lv_iload_n hx hb dX3_canResyncAt_29 rfl (lv_at hl 2 rfl) ?_
        refine k_ic (x := 1) hx hb dX3_canResyncAt_30 (by decide) ?_
        refine k_iadd (x := p) (y := 1) hx hb dX3_canResyncAt_31 ?_
        refine kV_r (r := a (7 * (s 0 0 (p + 1)) + 5)) (w2 := wC g a n s) (As := [.int (nI (p + 1))]) (b := a 0) (rest := []) (A1 := A) hfx (c_X3_nodeAt l hA hn6 (s := s) (p := p + 1) (x := s 0 0 (p + 1)) (rfl) (by omega) (by omega)) (cwV 1 hts gX3_canResyncAt_X3_nodeAt rfl rfl rfl (by decide +kernel) ⟨by decide, by decide⟩) (va_recv hC.1 hP (ci := 3) rfl (wC_obj)) hC hP hS (fun _ h => h) rfl hl.1 rfl (Nat.le_of_ble_eq_true rfl) dX3_canResyncAt_32 ⟨Nat.le_of_ble_eq_true rfl, Nat.le_of_ble_eq_true rfl⟩ (fun H locs hP hS _ _ => ?_)
        refine va_getN (D := g.1) (C := RX1) (T := TX1) (N := 5) (ci := 1) hx hb hu1 (fun _ h => h) hown hC.1 hP _ (wC_node (i := (s 0 0 (p + 1))) (by omega)) rfl 4 (by decide) (hC.F (i := 48) (r := RX1) (n := "failed") (d := "Z") (by decide +kernel)) (fun _ h9 => h9) rfl dX3_canResyncAt_35 ?_
        refine k_if_ne (tgt := 55) hx hb dX3_canResyncAt_38 (by decide) (by omega) (fun c38 => ?_) (fun c38 => ?_)
        · skip
          refine k_ic (x := 0) hx hb dX3_canResyncAt_55 (by decide) ?_
          exact k_zret hx hb hr hlk (by first | rw [if_pos ⟨by omega, by omega, by omega, by omega⟩] | rw [if_neg (by omega)]) (by decide) hP hS dX3_canResyncAt_56
        · skip
          refine lv_aload_n hx hb dX3_canResyncAt_41 rfl (lv_at hl 0 rfl) ?_
          refine va_getN (D := g.1) (C := RX1) (T := TX1) (N := 5) (ci := 1) hx hb hu1 (fun _ h => h) hown hC.1 hP _ (wC_node (i := (s 0 0 p)) (by omega)) rfl 1 (by decide) (hC.F (i := 88) (r := RX1) (n := "link") (d := "LSplicedChain$Link;") (by decide +kernel)) (fun _ h9 => h9) rfl dX3_canResyncAt_42 ?_
          refine va_getN (D := g.1) (C := RX0) (T := TX0) (N := 3) (ci := 0) hx hb hu0 (fun _ h => h) hown hC.1 hP _ (wC_link (i := (s 0 0 p)) (by omega)) rfl 2 (by decide) (hC.F (i := 136) (r := RX0) (n := "open") (d := "Z") (by decide +kernel)) (fun _ h9 => h9) rfl dX3_canResyncAt_45 ?_
          refine k_if_ne (tgt := 55) hx hb dX3_canResyncAt_48 (by decide) (by omega) (fun c48 => ?_) (fun c48 => ?_)
          · skip
            refine k_ic (x := 0) hx hb dX3_canResyncAt_55 (by decide) ?_
            exact k_zret hx hb hr hlk (by first | rw [if_pos ⟨by omega, by omega, by omega, by omega⟩] | rw [if_neg (by omega)]) (by decide) hP hS dX3_canResyncAt_56
          · skip
            refine k_ic (x := 1) hx hb dX3_canResyncAt_51 (by decide) ?_
            refine lv_goto (tgt := 56) hx hb dX3_canResyncAt_52 (by decide) ?_
            exact k_zret hx hb hr hlk (by first | rw [if_pos ⟨by omega, by omega, by omega, by omega⟩] | rw [if_neg (by omega)]) (by decide) hP hS dX3_canResyncAt_56
    · skip
      have f3 : p + 1 = s 1 0 0 := by rcases Nat.decEq (p + 1) (s 1 0 0) with q | q; simp [q] at c10; exact q
      refine k_ic (x := 0) hx hb dX3_canResyncAt_13 (by decide) ?_
      exact k_zret hx hb hr hlk (by rw [if_neg (by omega)]) (by decide) hP hS dX3_canResyncAt_14
set_option maxHeartbeats 4000000 in
set_option maxRecDepth 100000 in
/-- canResyncAt nowhere -/
theorem c_X3_canResyncAt_no (l : Launch) {g : GG} {a : Nat → Nat} {n : Nat} {A : Nat → Prop} (hA : Ap A a (5 + 7 * n)) (hn6 : n ≤ 6) {s : CS}  : Met l yX3_canResyncAt wsX3_canResyncAt ({ frames := 1, cells := 0, slots := 0, locals := 21 }) (pC g [.ref (a 0), .int (-1)] (wC g a n s)) (qI g (nI 0) (wC g a n s) A) 0 0 A := by
  refine k_start (cc := cX3_canResyncAt) (maxL := 3) (ret := (some .boolean)) (by decide) rfl (Nat.le_of_ble_eq_true rfl) ?_
  intro pr en s0 m args below meth cd hx hb hml hr hlk hts hown hin hC hP ls hl
  have hS : va_S A s0.heap s0.heap [] := va_S.rf
  have hfx : CallFix pr m cd cX3_canResyncAt 3 s0 args wsX3_canResyncAt RX3 := ⟨hx, hb, hml, hown, hts⟩
  have hl : lv_has ls 3 [(0, .ref (a 0)), (1, .int (-1))] := hl
  refine lv_iload_n hx hb dX3_canResyncAt_0 rfl (lv_at hl 1 rfl) ?_
  refine lv_iconst (v := -1) hx hb dX3_canResyncAt_1 (by decide) ?_
  refine lv_icmp_eq (tgt := 13) hx hb dX3_canResyncAt_2 (by decide) (fun c2 => ?_) (fun c2 => ?_)
  · skip
    refine k_ic (x := 0) hx hb dX3_canResyncAt_13 (by decide) ?_
    exact k_zret hx hb hr hlk (by rfl) (by decide) hP hS dX3_canResyncAt_14
  · exact absurd rfl c2
