/-! WHAT THE METHODS DO TO THE STATE -/
def qput (s : CS) (q v : Nat) : CS := if s 10 q 0 < 40 then w3 (w3 s 11 q ((s 9 q 0 + s 10 q 0) % 40) v) 10 q 0 (s 10 q 0 + 1) else s
def qtake (s : CS) (q : Nat) : CS := w3 (w3 s 9 q 0 ((s 9 q 0 + 1) % 40)) 10 q 0 (s 10 q 0 - 1)
def lput (s : CS) (i w v : Nat) : CS := if s 8 i 0 = 0 then s else qput s (2 * i + w) v
def lclose (s : CS) (i : Nat) : CS := w3 (w3 (w3 s 8 i 0 0) 10 (2 * i + 0) 0 0) 10 (2 * i + 1) 0 0
def ackAt (s : CS) (p v : Nat) : CS := if 0 < p then lput (if p + 1 = s 1 0 0 then w3 (w3 s 6 (s 0 0 p) 0 v) 4 0 0 v else w3 s 6 (s 0 0 p) 0 v) (s 0 0 (p - 1)) 1 v else (if p + 1 = s 1 0 0 then w3 (w3 s 6 (s 0 0 p) 0 v) 4 0 0 v else w3 s 6 (s 0 0 p) 0 v)
def applyAt (s : CS) (p v : Nat) : CS := if p + 1 = s 1 0 0 then ackAt (w3 (w3 s 5 (s 0 0 p) 0 v) 12 (s 0 0 p) (s 2 0 v) (s 3 0 v)) p v else lput (w3 (w3 s 5 (s 0 0 p) 0 v) 12 (s 0 0 p) (s 2 0 v) (s 3 0 v)) (s 0 0 p) 0 v
/-- the shape: what every state of the object keeps -/
def Sh (n : Nat) (s : CS) : Prop := (1 ≤ s 1 0 0 ∧ s 1 0 0 ≤ n) ∧ (∀ k, k < n → s 0 0 k < n) ∧ (∀ i, i < n → s 5 i 0 ≤ 40 ∧ s 6 i 0 ≤ 40 ∧ s 7 i 0 ≤ 1 ∧ s 8 i 0 ≤ 1) ∧ (∀ q, q < 2 * n → s 9 q 0 < 40 ∧ s 10 q 0 ≤ 40) ∧ (∀ u, u ≤ 40 → s 2 0 u < 8) ∧ s 4 0 0 ≤ 40 ∧ (∀ q k, q < 2 * n → k < 40 → s 11 q k ≤ 40)
theorem Sh.len {n : Nat} {s : CS} (h : Sh n s) : 1 ≤ s 1 0 0 ∧ s 1 0 0 ≤ n := h.1
theorem Sh.ch {n : Nat} {s : CS} (h : Sh n s) (k : Nat) (hk : k < n) : s 0 0 k < n := h.2.1 k hk
theorem Sh.nd {n : Nat} {s : CS} (h : Sh n s) (i : Nat) (hi : i < n) : s 5 i 0 ≤ 40 ∧ s 6 i 0 ≤ 40 ∧ s 7 i 0 ≤ 1 ∧ s 8 i 0 ≤ 1 := h.2.2.1 i hi
theorem Sh.qu {n : Nat} {s : CS} (h : Sh n s) (q : Nat) (hq : q < 2 * n) : s 9 q 0 < 40 ∧ s 10 q 0 ≤ 40 := h.2.2.2.1 q hq
theorem Sh.key {n : Nat} {s : CS} (h : Sh n s) (u : Nat) (hu : u ≤ 40) : s 2 0 u < 8 := h.2.2.2.2.1 u hu
theorem Sh.rp {n : Nat} {s : CS} (h : Sh n s) : s 4 0 0 ≤ 40 := h.2.2.2.2.2.1
theorem Sh.nu {n : Nat} {s : CS} (h : Sh n s) (q k : Nat) (hq : q < 2 * n) (hk : k < 40) : s 11 q k ≤ 40 := h.2.2.2.2.2.2 q k hq hk
theorem Sh.m0 {n : Nat} {s : CS} (h : Sh n s) {i k v : Nat} (hv : v < n) : Sh n (w3 s 0 i k v) := by
  obtain ⟨h1, h2, h3, h4, h5, h6, h7⟩ := h
  refine ⟨?_, fun k' hk => ?_, fun i' hi => ?_, fun q hq => ?_, fun u hu => ?_, ?_, fun q k' hq hk => ?_⟩
  · simp only [w3]; refine ⟨?_, ?_⟩ <;> split <;> omega
  · have := h2 k' hk; simp only [w3]; split <;> omega
  · have := h3 i' hi; simp only [w3]; refine ⟨?_, ?_, ?_, ?_⟩ <;> split <;> omega
  · have := h4 q hq; simp only [w3]; refine ⟨?_, ?_⟩ <;> split <;> omega
  · have := h5 u hu; simp only [w3]; split <;> omega
  · simp only [w3]; split <;> omega
  · have := h7 q k' hq hk; simp only [w3]; split <;> omega
theorem Sh.m1 {n : Nat} {s : CS} (h : Sh n s) {i k v : Nat} (hv : 1 ≤ v ∧ v ≤ n) : Sh n (w3 s 1 i k v) := by
  obtain ⟨h1, h2, h3, h4, h5, h6, h7⟩ := h
  refine ⟨?_, fun k' hk => ?_, fun i' hi => ?_, fun q hq => ?_, fun u hu => ?_, ?_, fun q k' hq hk => ?_⟩
  · simp only [w3]; refine ⟨?_, ?_⟩ <;> split <;> omega
  · have := h2 k' hk; simp only [w3]; split <;> omega
  · have := h3 i' hi; simp only [w3]; refine ⟨?_, ?_, ?_, ?_⟩ <;> split <;> omega
  · have := h4 q hq; simp only [w3]; refine ⟨?_, ?_⟩ <;> split <;> omega
  · have := h5 u hu; simp only [w3]; split <;> omega
  · simp only [w3]; split <;> omega
  · have := h7 q k' hq hk; simp only [w3]; split <;> omega
theorem Sh.m2 {n : Nat} {s : CS} (h : Sh n s) {i k v : Nat} (hv : v < 8) : Sh n (w3 s 2 i k v) := by
  obtain ⟨h1, h2, h3, h4, h5, h6, h7⟩ := h
  refine ⟨?_, fun k' hk => ?_, fun i' hi => ?_, fun q hq => ?_, fun u hu => ?_, ?_, fun q k' hq hk => ?_⟩
  · simp only [w3]; refine ⟨?_, ?_⟩ <;> split <;> omega
  · have := h2 k' hk; simp only [w3]; split <;> omega
  · have := h3 i' hi; simp only [w3]; refine ⟨?_, ?_, ?_, ?_⟩ <;> split <;> omega
  · have := h4 q hq; simp only [w3]; refine ⟨?_, ?_⟩ <;> split <;> omega
  · have := h5 u hu; simp only [w3]; split <;> omega
  · simp only [w3]; split <;> omega
  · have := h7 q k' hq hk; simp only [w3]; split <;> omega
theorem Sh.m3 {n : Nat} {s : CS} (h : Sh n s) {i k v : Nat}  : Sh n (w3 s 3 i k v) := by
  obtain ⟨h1, h2, h3, h4, h5, h6, h7⟩ := h
  refine ⟨?_, fun k' hk => ?_, fun i' hi => ?_, fun q hq => ?_, fun u hu => ?_, ?_, fun q k' hq hk => ?_⟩
  · simp only [w3]; refine ⟨?_, ?_⟩ <;> split <;> omega
  · have := h2 k' hk; simp only [w3]; split <;> omega
  · have := h3 i' hi; simp only [w3]; refine ⟨?_, ?_, ?_, ?_⟩ <;> split <;> omega
  · have := h4 q hq; simp only [w3]; refine ⟨?_, ?_⟩ <;> split <;> omega
  · have := h5 u hu; simp only [w3]; split <;> omega
  · simp only [w3]; split <;> omega
  · have := h7 q k' hq hk; simp only [w3]; split <;> omega
theorem Sh.m4 {n : Nat} {s : CS} (h : Sh n s) {i k v : Nat} (hv : v ≤ 40) : Sh n (w3 s 4 i k v) := by
  obtain ⟨h1, h2, h3, h4, h5, h6, h7⟩ := h
  refine ⟨?_, fun k' hk => ?_, fun i' hi => ?_, fun q hq => ?_, fun u hu => ?_, ?_, fun q k' hq hk => ?_⟩
  · simp only [w3]; refine ⟨?_, ?_⟩ <;> split <;> omega
  · have := h2 k' hk; simp only [w3]; split <;> omega
  · have := h3 i' hi; simp only [w3]; refine ⟨?_, ?_, ?_, ?_⟩ <;> split <;> omega
  · have := h4 q hq; simp only [w3]; refine ⟨?_, ?_⟩ <;> split <;> omega
  · have := h5 u hu; simp only [w3]; split <;> omega
  · simp only [w3]; split <;> omega
  · have := h7 q k' hq hk; simp only [w3]; split <;> omega
theorem Sh.m5 {n : Nat} {s : CS} (h : Sh n s) {i k v : Nat} (hv : v ≤ 40) : Sh n (w3 s 5 i k v) := by
  obtain ⟨h1, h2, h3, h4, h5, h6, h7⟩ := h
  refine ⟨?_, fun k' hk => ?_, fun i' hi => ?_, fun q hq => ?_, fun u hu => ?_, ?_, fun q k' hq hk => ?_⟩
  · simp only [w3]; refine ⟨?_, ?_⟩ <;> split <;> omega
  · have := h2 k' hk; simp only [w3]; split <;> omega
  · have := h3 i' hi; simp only [w3]; refine ⟨?_, ?_, ?_, ?_⟩ <;> split <;> omega
  · have := h4 q hq; simp only [w3]; refine ⟨?_, ?_⟩ <;> split <;> omega
  · have := h5 u hu; simp only [w3]; split <;> omega
  · simp only [w3]; split <;> omega
  · have := h7 q k' hq hk; simp only [w3]; split <;> omega
theorem Sh.m6 {n : Nat} {s : CS} (h : Sh n s) {i k v : Nat} (hv : v ≤ 40) : Sh n (w3 s 6 i k v) := by
  obtain ⟨h1, h2, h3, h4, h5, h6, h7⟩ := h
  refine ⟨?_, fun k' hk => ?_, fun i' hi => ?_, fun q hq => ?_, fun u hu => ?_, ?_, fun q k' hq hk => ?_⟩
  · simp only [w3]; refine ⟨?_, ?_⟩ <;> split <;> omega
  · have := h2 k' hk; simp only [w3]; split <;> omega
  · have := h3 i' hi; simp only [w3]; refine ⟨?_, ?_, ?_, ?_⟩ <;> split <;> omega
  · have := h4 q hq; simp only [w3]; refine ⟨?_, ?_⟩ <;> split <;> omega
  · have := h5 u hu; simp only [w3]; split <;> omega
  · simp only [w3]; split <;> omega
  · have := h7 q k' hq hk; simp only [w3]; split <;> omega
theorem Sh.m7 {n : Nat} {s : CS} (h : Sh n s) {i k v : Nat} (hv : v ≤ 1) : Sh n (w3 s 7 i k v) := by
  obtain ⟨h1, h2, h3, h4, h5, h6, h7⟩ := h
  refine ⟨?_, fun k' hk => ?_, fun i' hi => ?_, fun q hq => ?_, fun u hu => ?_, ?_, fun q k' hq hk => ?_⟩
  · simp only [w3]; refine ⟨?_, ?_⟩ <;> split <;> omega
  · have := h2 k' hk; simp only [w3]; split <;> omega
  · have := h3 i' hi; simp only [w3]; refine ⟨?_, ?_, ?_, ?_⟩ <;> split <;> omega
  · have := h4 q hq; simp only [w3]; refine ⟨?_, ?_⟩ <;> split <;> omega
  · have := h5 u hu; simp only [w3]; split <;> omega
  · simp only [w3]; split <;> omega
  · have := h7 q k' hq hk; simp only [w3]; split <;> omega
theorem Sh.m8 {n : Nat} {s : CS} (h : Sh n s) {i k v : Nat} (hv : v ≤ 1) : Sh n (w3 s 8 i k v) := by
  obtain ⟨h1, h2, h3, h4, h5, h6, h7⟩ := h
  refine ⟨?_, fun k' hk => ?_, fun i' hi => ?_, fun q hq => ?_, fun u hu => ?_, ?_, fun q k' hq hk => ?_⟩
  · simp only [w3]; refine ⟨?_, ?_⟩ <;> split <;> omega
  · have := h2 k' hk; simp only [w3]; split <;> omega
  · have := h3 i' hi; simp only [w3]; refine ⟨?_, ?_, ?_, ?_⟩ <;> split <;> omega
  · have := h4 q hq; simp only [w3]; refine ⟨?_, ?_⟩ <;> split <;> omega
  · have := h5 u hu; simp only [w3]; split <;> omega
  · simp only [w3]; split <;> omega
  · have := h7 q k' hq hk; simp only [w3]; split <;> omega
theorem Sh.m9 {n : Nat} {s : CS} (h : Sh n s) {i k v : Nat} (hv : v < 40) : Sh n (w3 s 9 i k v) := by
  obtain ⟨h1, h2, h3, h4, h5, h6, h7⟩ := h
  refine ⟨?_, fun k' hk => ?_, fun i' hi => ?_, fun q hq => ?_, fun u hu => ?_, ?_, fun q k' hq hk => ?_⟩
  · simp only [w3]; refine ⟨?_, ?_⟩ <;> split <;> omega
  · have := h2 k' hk; simp only [w3]; split <;> omega
  · have := h3 i' hi; simp only [w3]; refine ⟨?_, ?_, ?_, ?_⟩ <;> split <;> omega
  · have := h4 q hq; simp only [w3]; refine ⟨?_, ?_⟩ <;> split <;> omega
  · have := h5 u hu; simp only [w3]; split <;> omega
  · simp only [w3]; split <;> omega
  · have := h7 q k' hq hk; simp only [w3]; split <;> omega
theorem Sh.m10 {n : Nat} {s : CS} (h : Sh n s) {i k v : Nat} (hv : v ≤ 40) : Sh n (w3 s 10 i k v) := by
  obtain ⟨h1, h2, h3, h4, h5, h6, h7⟩ := h
  refine ⟨?_, fun k' hk => ?_, fun i' hi => ?_, fun q hq => ?_, fun u hu => ?_, ?_, fun q k' hq hk => ?_⟩
  · simp only [w3]; refine ⟨?_, ?_⟩ <;> split <;> omega
  · have := h2 k' hk; simp only [w3]; split <;> omega
  · have := h3 i' hi; simp only [w3]; refine ⟨?_, ?_, ?_, ?_⟩ <;> split <;> omega
  · have := h4 q hq; simp only [w3]; refine ⟨?_, ?_⟩ <;> split <;> omega
  · have := h5 u hu; simp only [w3]; split <;> omega
  · simp only [w3]; split <;> omega
  · have := h7 q k' hq hk; simp only [w3]; split <;> omega
theorem Sh.m11 {n : Nat} {s : CS} (h : Sh n s) {i k v : Nat} (hv : v ≤ 40) : Sh n (w3 s 11 i k v) := by
  obtain ⟨h1, h2, h3, h4, h5, h6, h7⟩ := h
  refine ⟨?_, fun k' hk => ?_, fun i' hi => ?_, fun q hq => ?_, fun u hu => ?_, ?_, fun q k' hq hk => ?_⟩
  · simp only [w3]; refine ⟨?_, ?_⟩ <;> split <;> omega
  · have := h2 k' hk; simp only [w3]; split <;> omega
  · have := h3 i' hi; simp only [w3]; refine ⟨?_, ?_, ?_, ?_⟩ <;> split <;> omega
  · have := h4 q hq; simp only [w3]; refine ⟨?_, ?_⟩ <;> split <;> omega
  · have := h5 u hu; simp only [w3]; split <;> omega
  · simp only [w3]; split <;> omega
  · have := h7 q k' hq hk; simp only [w3]; split <;> omega
theorem Sh.m12 {n : Nat} {s : CS} (h : Sh n s) {i k v : Nat}  : Sh n (w3 s 12 i k v) := by
  obtain ⟨h1, h2, h3, h4, h5, h6, h7⟩ := h
  refine ⟨?_, fun k' hk => ?_, fun i' hi => ?_, fun q hq => ?_, fun u hu => ?_, ?_, fun q k' hq hk => ?_⟩
  · simp only [w3]; refine ⟨?_, ?_⟩ <;> split <;> omega
  · have := h2 k' hk; simp only [w3]; split <;> omega
  · have := h3 i' hi; simp only [w3]; refine ⟨?_, ?_, ?_, ?_⟩ <;> split <;> omega
  · have := h4 q hq; simp only [w3]; refine ⟨?_, ?_⟩ <;> split <;> omega
  · have := h5 u hu; simp only [w3]; split <;> omega
  · simp only [w3]; split <;> omega
  · have := h7 q k' hq hk; simp only [w3]; split <;> omega
theorem Sh.qp {n : Nat} {s : CS} (h : Sh n s) {q v : Nat} (hv : v ≤ 40) : Sh n (qput s q v) := by
  unfold qput
  split
  · exact (h.m11 hv).m10 (by omega)
  · exact h
theorem Sh.qt {n : Nat} {s : CS} (h : Sh n s) {q : Nat} (hq : s 10 q 0 ≤ 40) : Sh n (qtake s q) := (h.m9 (Nat.mod_lt _ (by decide))).m10 (by omega)
theorem Sh.lp {n : Nat} {s : CS} (h : Sh n s) {i w v : Nat} (hv : v ≤ 40) : Sh n (lput s i w v) := by
  unfold lput
  split
  · exact h
  · exact h.qp hv
theorem Sh.lc {n : Nat} {s : CS} (h : Sh n s) {i : Nat} : Sh n (lclose s i) := ((h.m8 (by omega)).m10 (by omega)).m10 (by omega)
theorem Sh.aa {n : Nat} {s : CS} (h : Sh n s) {p v : Nat} (hv : v ≤ 40) : Sh n (ackAt s p v) := by
  unfold ackAt
  have h1 : Sh n (if p + 1 = s 1 0 0 then w3 (w3 s 6 (s 0 0 p) 0 v) 4 0 0 v else w3 s 6 (s 0 0 p) 0 v) := by
    split
    · exact (h.m6 hv).m4 hv
    · exact h.m6 hv
  split
  · exact h1.lp hv
  · exact h1
theorem Sh.ap {n : Nat} {s : CS} (h : Sh n s) {p v : Nat} (hv : v ≤ 40) : Sh n (applyAt s p v) := by
  unfold applyAt
  split
  · exact ((h.m5 hv).m12).aa hv
  · exact ((h.m5 hv).m12).lp hv
set_option maxHeartbeats 4000000 in
set_option maxRecDepth 100000 in
/-- Queue.put -/
theorem c_X2_put (l : Launch) {g : GG} {a : Nat → Nat} {n : Nat} {A : Nat → Prop} (hA : Ap A a (5 + 7 * n)) (hn6 : n ≤ 6) {s : CS} {i w v : Nat} (hi : i < n) (hw : w < 2) (h9 : s 9 (2 * i + w) 0 < 40) (h10 : s 10 (2 * i + w) 0 ≤ 40) : Met l yX2_put wsX2_put ({ frames := 0, cells := 0, slots := 0, locals := 0 }) (pC g [.ref (a (7 * i + 8 + 2 * w)), .int (nI v)] (wC g a n s)) (qV g (wC g a n (qput s (2 * i + w) v)) A) 0 0 A := by
  refine k_start (cc := cX2_put) (maxL := 2) (ret := none) (by decide) rfl (Nat.le_of_ble_eq_true rfl) ?_
  intro pr en s0 m args below meth cd hx hb hml hr hlk hts hown hin hC hP ls hl
  have hS : va_S A s0.heap s0.heap [] := va_S.rf
  have hfx : CallFix pr m cd cX2_put 2 s0 args wsX2_put RX2 := ⟨hx, hb, hml, hown, hts⟩
  have hu2 : ∀ w ∈ wsX20, w.before args s0 = true := fun w h => hts w ((by decide +kernel : ∀ w ∈ wsX20, w ∈ wsX2_put) w h)
  have hl : lv_has ls 2 [(0, .ref (a (7 * i + 8 + 2 * w))), (1, .int (nI v))] := hl
  refine lv_aload_n hx hb dX2_put_0 rfl (lv_at hl 0 rfl) ?_
  refine va_get (D := g.1) (C := RX2) (T := TX2) (N := 3) (ci := 2) hx hb hu2 (fun _ h => h) hown hC.1 hP _ (wC_q (i := i) (w := w) (by omega) hw) rfl 2 (by decide) (hts (.fieldLink RX2 19 "SplicedChain$Queue" "size" "I") (by decide +kernel)) (fun _ h9 => h9) rfl dX2_put_1 ?_
  refine k_bi (x := 40) hx hb dX2_put_4 (by decide) ?_
  refine k_icmp_ge (tgt := 37) hx hb dX2_put_6 (by decide) (by omega) (by omega) (fun c6 => ?_) (fun c6 => ?_)
  · skip
    exact k_vret hx hb hr hlk (P_eq (congrArg (wC g a n) (by simp [qput]; omega)) hP) hS dX2_put_37
  · skip
    refine lv_aload_n hx hb dX2_put_9 rfl (lv_at hl 0 rfl) ?_
    refine va_get (D := g.1) (C := RX2) (T := TX2) (N := 3) (ci := 2) hx hb hu2 (fun _ h => h) hown hC.1 hP _ (wC_q (i := i) (w := w) (by omega) hw) rfl 0 (by decide) (hts (.fieldLink RX2 9 "SplicedChain$Queue" "numbers" "[I") (by decide +kernel)) (fun _ h9 => h9) rfl dX2_put_10 ?_
    refine lv_aload_n hx hb dX2_put_13 rfl (lv_at hl 0 rfl) ?_
    refine va_get (D := g.1) (C := RX2) (T := TX2) (N := 3) (ci := 2) hx hb hu2 (fun _ h => h) hown hC.1 hP _ (wC_q (i := i) (w := w) (by omega) hw) rfl 1 (by decide) (hts (.fieldLink RX2 15 "SplicedChain$Queue" "first" "I") (by decide +kernel)) (fun _ h9 => h9) rfl dX2_put_14 ?_
    refine lv_aload_n hx hb dX2_put_17 rfl (lv_at hl 0 rfl) ?_
    refine va_get (D := g.1) (C := RX2) (T := TX2) (N := 3) (ci := 2) hx hb hu2 (fun _ h => h) hown hC.1 hP _ (wC_q (i := i) (w := w) (by omega) hw) rfl 2 (by decide) (hts (.fieldLink RX2 19 "SplicedChain$Queue" "size" "I") (by decide +kernel)) (fun _ h9 => h9) rfl dX2_put_18 ?_
    refine k_iadd (x := s 9 ((2 * i + w)) 0) (y := s 10 ((2 * i + w)) 0) hx hb dX2_put_21 ?_
    refine k_bi (x := 40) hx hb dX2_put_22 (by decide) ?_
    refine k_irem (x := (s 9 ((2 * i + w)) 0) + (s 10 ((2 * i + w)) 0)) (y := 40) hx hb (by omega) (by omega) (by omega) dX2_put_24 ?_
    refine lv_iload_n hx hb dX2_put_25 rfl (lv_at hl 1 rfl) ?_
    refine k_iast hx hb hC hP hA.D hS _ (wC_row (i := i) (w := w) (by omega) hw) (j := ((s 9 ((2 * i + w)) 0) + (s 10 ((2 * i + w)) 0)) % 40) (by omega) (by omega) dX2_put_26 (wp_row (i := i) (w := w) hw) (fun H locs hP hS => ?_)
    refine lv_aload_n hx hb dX2_put_27 rfl (lv_at hl 0 rfl) ?_
    refine lv_dup hx hb dX2_put_28 rfl ?_
    refine va_get (D := g.1) (C := RX2) (T := TX2) (N := 3) (ci := 2) hx hb hu2 (fun _ h => h) hown hC.1 hP _ (wC_q (i := i) (w := w) (by omega) hw) rfl 2 (by decide) (hts (.fieldLink RX2 19 "SplicedChain$Queue" "size" "I") (by decide +kernel)) (fun _ h9 => h9) rfl dX2_put_29 ?_
    refine k_as (x := s 10 ((2 * i + w)) 0) (by simp [w3]) ?_
    refine k_ic (x := 1) hx hb dX2_put_32 (by decide) ?_
    refine k_iadd (x := s 10 ((2 * i + w)) 0) (y := 1) hx hb dX2_put_33 ?_
    refine va_put (D := g.1) (v := .int (nI ((s 10 ((2 * i + w)) 0) + 1))) (ty := .int) (C := RX2) (T := TX2) (N := 3) (ci := 2) hx hb hu2 (fun _ h => h) tyX2 tyX2_ok nmX2 hown hC.1 hP hA.D hS _ (wC_q (i := i) (w := w) (by omega) hw) rfl 2 (by decide) (hts (.fieldLink RX2 19 "SplicedChain$Queue" "size" "I") (by decide +kernel)) (fun _ h9 => h9) rfl (by decide +kernel) rfl rfl (Nat.le_of_ble_eq_true rfl) dX2_put_34 (fun H locs hP _ hS => ?_)
    have hP : va_P g.1 vwCl (wC g a n (w3 (w3 s 11 ((2 * i + w)) (((s 9 ((2 * i + w)) 0) + (s 10 ((2 * i + w)) 0)) % 40) v) 10 ((2 * i + w)) 0 ((s 10 ((2 * i + w)) 0) + 1))) H := P_eq (wp_size (i := i) (w := w) hw) hP
    exact k_vret hx hb hr hlk (P_eq (congrArg (wC g a n) (by simp [qput]; omega)) hP) hS dX2_put_37
set_option maxHeartbeats 4000000 in
set_option maxRecDepth 100000 in
/-- Queue.take -/
theorem c_X2_take (l : Launch) {g : GG} {a : Nat → Nat} {n : Nat} {A : Nat → Prop} (hA : Ap A a (5 + 7 * n)) (hn6 : n ≤ 6) {s : CS} {i w : Nat} (hi : i < n) (hw : w < 2) (h9 : s 9 (2 * i + w) 0 < 40) (h10 : 0 < s 10 (2 * i + w) 0) : Met l yX2_take wsX2_take ({ frames := 0, cells := 0, slots := 0, locals := 0 }) (pC g [.ref (a (7 * i + 8 + 2 * w))] (wC g a n s)) (qI g (nI (s 11 (2 * i + w) (s 9 (2 * i + w) 0))) (wC g a n (qtake s (2 * i + w))) A) 0 0 A := by
  refine k_start (cc := cX2_take) (maxL := 2) (ret := (some .int)) (by decide) rfl (Nat.le_of_ble_eq_true rfl) ?_
  intro pr en s0 m args below meth cd hx hb hml hr hlk hts hown hin hC hP ls hl
  have hS : va_S A s0.heap s0.heap [] := va_S.rf
  have hfx : CallFix pr m cd cX2_take 2 s0 args wsX2_take RX2 := ⟨hx, hb, hml, hown, hts⟩
  have hu2 : ∀ w ∈ wsX20, w.before args s0 = true := fun w h => hts w ((by decide +kernel : ∀ w ∈ wsX20, w ∈ wsX2_take) w h)
  have hl : lv_has ls 2 [(0, .ref (a (7 * i + 8 + 2 * w)))] := hl
  refine lv_aload_n hx hb dX2_take_0 rfl (lv_at hl 0 rfl) ?_
  refine va_get (D := g.1) (C := RX2) (T := TX2) (N := 3) (ci := 2) hx hb hu2 (fun _ h => h) hown hC.1 hP _ (wC_q (i := i) (w := w) (by omega) hw) rfl 0 (by decide) (hts (.fieldLink RX2 9 "SplicedChain$Queue" "numbers" "[I") (by decide +kernel)) (fun _ h9 => h9) rfl dX2_take_1 ?_
  refine lv_aload_n hx hb dX2_take_4 rfl (lv_at hl 0 rfl) ?_
  refine va_get (D := g.1) (C := RX2) (T := TX2) (N := 3) (ci := 2) hx hb hu2 (fun _ h => h) hown hC.1 hP _ (wC_q (i := i) (w := w) (by omega) hw) rfl 1 (by decide) (hts (.fieldLink RX2 15 "SplicedChain$Queue" "first" "I") (by decide +kernel)) (fun _ h9 => h9) rfl dX2_take_5 ?_
  refine k_iald hx hb hC hP _ (wC_row (i := i) (w := w) (by omega) hw) (j := s 9 ((2 * i + w)) 0) (by omega) (by omega) dX2_take_8 ?_
  refine lv_istore_n (lv' := [(1, .int (nI (s 11 ((2 * i + w)) (s 9 ((2 * i + w)) 0)))), (0, .ref (a (7 * i + 8 + 2 * w)))]) hx hb dX2_take_9 rfl hl (by decide) rfl (fun ls hl => ?_)
  refine lv_aload_n hx hb dX2_take_10 rfl (lv_at hl 1 rfl) ?_
  refine lv_aload_n hx hb dX2_take_11 rfl (lv_at hl 1 rfl) ?_
  refine va_get (D := g.1) (C := RX2) (T := TX2) (N := 3) (ci := 2) hx hb hu2 (fun _ h => h) hown hC.1 hP _ (wC_q (i := i) (w := w) (by omega) hw) rfl 1 (by decide) (hts (.fieldLink RX2 15 "SplicedChain$Queue" "first" "I") (by decide +kernel)) (fun _ h9 => h9) rfl dX2_take_12 ?_
  refine k_ic (x := 1) hx hb dX2_take_15 (by decide) ?_
  refine k_iadd (x := s 9 ((2 * i + w)) 0) (y := 1) hx hb dX2_take_16 ?_
  refine k_bi (x := 40) hx hb dX2_take_17 (by decide) ?_
  refine k_irem (x := (s 9 ((2 * i + w)) 0) + 1) (y := 40) hx hb (by omega) (by omega) (by omega) dX2_take_19 ?_
  refine va_put (D := g.1) (v := .int (nI (((s 9 ((2 * i + w)) 0) + 1) % 40))) (ty := .int) (C := RX2) (T := TX2) (N := 3) (ci := 2) hx hb hu2 (fun _ h => h) tyX2 tyX2_ok nmX2 hown hC.1 hP hA.D hS _ (wC_q (i := i) (w := w) (by omega) hw) rfl 1 (by decide) (hts (.fieldLink RX2 15 "SplicedChain$Queue" "first" "I") (by decide +kernel)) (fun _ h9 => h9) rfl (by decide +kernel) rfl rfl (Nat.le_of_ble_eq_true rfl) dX2_take_20 (fun H locs hP _ hS => ?_)
  have hP : va_P g.1 vwCl (wC g a n (w3 s 9 ((2 * i + w)) 0 (((s 9 ((2 * i + w)) 0) + 1) % 40))) H := P_eq (wp_first (i := i) (w := w) hw) hP
  refine lv_aload_n hx hb dX2_take_23 rfl (lv_at hl 1 rfl) ?_
  refine lv_dup hx hb dX2_take_24 rfl ?_
  refine va_get (D := g.1) (C := RX2) (T := TX2) (N := 3) (ci := 2) hx hb hu2 (fun _ h => h) hown hC.1 hP _ (wC_q (i := i) (w := w) (by omega) hw) rfl 2 (by decide) (hts (.fieldLink RX2 19 "SplicedChain$Queue" "size" "I") (by decide +kernel)) (fun _ h9 => h9) rfl dX2_take_25 ?_
  refine k_as (x := s 10 ((2 * i + w)) 0) (by simp [w3]) ?_
  refine k_ic (x := 1) hx hb dX2_take_28 (by decide) ?_
  refine k_isub (x := s 10 ((2 * i + w)) 0) (y := 1) hx hb (by omega) dX2_take_29 ?_
  refine va_put (D := g.1) (v := .int (nI ((s 10 ((2 * i + w)) 0) - 1))) (ty := .int) (C := RX2) (T := TX2) (N := 3) (ci := 2) hx hb hu2 (fun _ h => h) tyX2 tyX2_ok nmX2 hown hC.1 hP hA.D hS _ (wC_q (i := i) (w := w) (by omega) hw) rfl 2 (by decide) (hts (.fieldLink RX2 19 "SplicedChain$Queue" "size" "I") (by decide +kernel)) (fun _ h9 => h9) rfl (by decide +kernel) rfl rfl (Nat.le_of_ble_eq_true rfl) dX2_take_30 (fun H locs hP _ hS => ?_)
  have hP : va_P g.1 vwCl (wC g a n (w3 (w3 s 9 ((2 * i + w)) 0 (((s 9 ((2 * i + w)) 0) + 1) % 40)) 10 ((2 * i + w)) 0 ((s 10 ((2 * i + w)) 0) - 1))) H := P_eq (wp_size (i := i) (w := w) hw) hP
  refine lv_iload_n hx hb dX2_take_33 rfl (lv_at hl 0 rfl) ?_
  exact k_iret hx hb hr hlk (by rfl) hP hS dX2_take_34
set_option maxHeartbeats 4000000 in
set_option maxRecDepth 100000 in
/-- Queue.clear -/
theorem c_X2_clear (l : Launch) {g : GG} {a : Nat → Nat} {n : Nat} {A : Nat → Prop} (hA : Ap A a (5 + 7 * n)) (hn6 : n ≤ 6) {s : CS} {i w : Nat} (hi : i < n) (hw : w < 2) : Met l yX2_clear wsX2_clear ({ frames := 0, cells := 0, slots := 0, locals := 0 }) (pC g [.ref (a (7 * i + 8 + 2 * w))] (wC g a n s)) (qV g (wC g a n (w3 s 10 (2 * i + w) 0 0)) A) 0 0 A := by
  refine k_start (cc := cX2_clear) (maxL := 1) (ret := none) (by decide) rfl (Nat.le_of_ble_eq_true rfl) ?_
  intro pr en s0 m args below meth cd hx hb hml hr hlk hts hown hin hC hP ls hl
  have hS : va_S A s0.heap s0.heap [] := va_S.rf
  have hfx : CallFix pr m cd cX2_clear 1 s0 args wsX2_clear RX2 := ⟨hx, hb, hml, hown, hts⟩
  have hu2 : ∀ w ∈ wsX20, w.before args s0 = true := fun w h => hts w ((by decide +kernel : ∀ w ∈ wsX20, w ∈ wsX2_clear) w h)
  have hl : lv_has ls 1 [(0, .ref (a (7 * i + 8 + 2 * w)))] := hl
  refine lv_aload_n hx hb dX2_clear_0 rfl (lv_at hl 0 rfl) ?_
  refine k_ic (x := 0) hx hb dX2_clear_1 (by decide) ?_
  refine va_put (D := g.1) (v := .int (nI 0)) (ty := .int) (C := RX2) (T := TX2) (N := 3) (ci := 2) hx hb hu2 (fun _ h => h) tyX2 tyX2_ok nmX2 hown hC.1 hP hA.D hS _ (wC_q (i := i) (w := w) (by omega) hw) rfl 2 (by decide) (hts (.fieldLink RX2 19 "SplicedChain$Queue" "size" "I") (by decide +kernel)) (fun _ h9 => h9) rfl (by decide +kernel) rfl rfl (Nat.le_of_ble_eq_true rfl) dX2_clear_2 (fun H locs hP _ hS => ?_)
  have hP : va_P g.1 vwCl (wC g a n (w3 s 10 ((2 * i + w)) 0 0)) H := P_eq (wp_size (i := i) (w := w) hw) hP
  exact k_vret hx hb hr hlk hP hS dX2_clear_5
set_option maxHeartbeats 4000000 in
set_option maxRecDepth 100000 in
/-- Link.putUpdate -/
theorem c_X0_putUpdate (l : Launch) {g : GG} {a : Nat → Nat} {n : Nat} {A : Nat → Prop} (hA : Ap A a (5 + 7 * n)) (hn6 : n ≤ 6) {s : CS} {i v : Nat} (hi : i < n) (hs : Sh n s) : Met l yX0_putUpdate wsX0_putUpdate ({ frames := 1, cells := 0, slots := 0, locals := 21 }) (pC g [.ref (a (7 * i + 7)), .int (nI v)] (wC g a n s)) (qV g (wC g a n (lput s i 0 v)) A) 0 0 A := by
  refine k_start (cc := cX0_putUpdate) (maxL := 2) (ret := none) (by decide) rfl (Nat.le_of_ble_eq_true rfl) ?_
  intro pr en s0 m args below meth cd hx hb hml hr hlk hts hown hin hC hP ls hl
  have hS : va_S A s0.heap s0.heap [] := va_S.rf
  have hfx : CallFix pr m cd cX0_putUpdate 2 s0 args wsX0_putUpdate RX0 := ⟨hx, hb, hml, hown, hts⟩
  have hu0 : ∀ w ∈ wsX00, w.before args s0 = true := fun w h => hts w ((by decide +kernel : ∀ w ∈ wsX00, w ∈ wsX0_putUpdate) w h)
  have hl : lv_has ls 2 [(0, .ref (a (7 * i + 7))), (1, .int (nI v))] := hl
  have f1 := hs.nd i hi
  have f2 := hs.qu (2 * i + 0) (by omega)
  refine lv_aload_n hx hb dX0_putUpdate_0 rfl (lv_at hl 0 rfl) ?_
  refine va_get (D := g.1) (C := RX0) (T := TX0) (N := 3) (ci := 0) hx hb hu0 (fun _ h => h) hown hC.1 hP _ (wC_link (i := i) hi) rfl 2 (by decide) (hts (.fieldLink RX0 19 "SplicedChain$Link" "open" "Z") (by decide +kernel)) (fun _ h9 => h9) rfl dX0_putUpdate_1 ?_
  refine k_if_eq (tgt := 15) hx hb dX0_putUpdate_4 (by decide) (by omega) (fun c4 => ?_) (fun c4 => ?_)
  · skip
    exact k_vret hx hb hr hlk (P_eq (congrArg (wC g a n) (by simp [lput]; omega)) hP) hS dX0_putUpdate_15
  · skip
    refine lv_aload_n hx hb dX0_putUpdate_7 rfl (lv_at hl 0 rfl) ?_
    refine va_get (D := g.1) (C := RX0) (T := TX0) (N := 3) (ci := 0) hx hb hu0 (fun _ h => h) hown hC.1 hP _ (wC_link (i := i) hi) rfl 0 (by decide) (hts (.fieldLink RX0 10 "SplicedChain$Link" "updates" "LSplicedChain$Queue;") (by decide +kernel)) (fun _ h9 => h9) rfl dX0_putUpdate_8 ?_
    refine lv_iload_n hx hb dX0_putUpdate_11 rfl (lv_at hl 1 rfl) ?_
    refine kV_v (w2 := wC g a n (qput s (2 * i + 0) v)) (As := [.int (nI v)]) (b := a (7 * i + 8)) (rest := []) (A1 := A) hfx (c_X2_put l hA hn6 (s := s) (i := i) (w := 0) (v := v) hi (by decide) (by omega) (by omega)) (cwV 1 hts gX0_putUpdate_X2_put rfl rfl rfl (by decide +kernel) ⟨by decide, by decide⟩) (va_recv hC.1 hP (ci := 2) rfl (wC_q (i := i) (w := 0) hi (by decide))) hC hP hS (fun _ h => h) rfl hl.1 rfl (Nat.le_of_ble_eq_true rfl) dX0_putUpdate_12 ⟨Nat.le_of_ble_eq_true rfl, Nat.le_of_ble_eq_true rfl⟩ (fun H locs hP hS _ _ => ?_)
    exact k_vret hx hb hr hlk (P_eq (congrArg (wC g a n) (by simp [lput]; omega)) hP) hS dX0_putUpdate_15
set_option maxHeartbeats 4000000 in
set_option maxRecDepth 100000 in
/-- Link.putAcknowledgement -/
theorem c_X0_putAcknowledgement (l : Launch) {g : GG} {a : Nat → Nat} {n : Nat} {A : Nat → Prop} (hA : Ap A a (5 + 7 * n)) (hn6 : n ≤ 6) {s : CS} {i v : Nat} (hi : i < n) (hs : Sh n s) : Met l yX0_putAcknowledgement wsX0_putAcknowledgement ({ frames := 1, cells := 0, slots := 0, locals := 21 }) (pC g [.ref (a (7 * i + 7)), .int (nI v)] (wC g a n s)) (qV g (wC g a n (lput s i 1 v)) A) 0 0 A := by
  refine k_start (cc := cX0_putAcknowledgement) (maxL := 2) (ret := none) (by decide) rfl (Nat.le_of_ble_eq_true rfl) ?_
  intro pr en s0 m args below meth cd hx hb hml hr hlk hts hown hin hC hP ls hl
  have hS : va_S A s0.heap s0.heap [] := va_S.rf
  have hfx : CallFix pr m cd cX0_putAcknowledgement 2 s0 args wsX0_putAcknowledgement RX0 := ⟨hx, hb, hml, hown, hts⟩
  have hu0 : ∀ w ∈ wsX00, w.before args s0 = true := fun w h => hts w ((by decide +kernel : ∀ w ∈ wsX00, w ∈ wsX0_putAcknowledgement) w h)
  have hl : lv_has ls 2 [(0, .ref (a (7 * i + 7))), (1, .int (nI v))] := hl
  have f1 := hs.nd i hi
  have f2 := hs.qu (2 * i + 1) (by omega)
  refine lv_aload_n hx hb dX0_putAcknowledgement_0 rfl (lv_at hl 0 rfl) ?_
  refine va_get (D := g.1) (C := RX0) (T := TX0) (N := 3) (ci := 0) hx hb hu0 (fun _ h => h) hown hC.1 hP _ (wC_link (i := i) hi) rfl 2 (by decide) (hts (.fieldLink RX0 19 "SplicedChain$Link" "open" "Z") (by decide +kernel)) (fun _ h9 => h9) rfl dX0_putAcknowledgement_1 ?_
  refine k_if_eq (tgt := 15) hx hb dX0_putAcknowledgement_4 (by decide) (by omega) (fun c4 => ?_) (fun c4 => ?_)
  · skip
    exact k_vret hx hb hr hlk (P_eq (congrArg (wC g a n) (by simp [lput]; omega)) hP) hS dX0_putAcknowledgement_15
  · skip
    refine lv_aload_n hx hb dX0_putAcknowledgement_7 rfl (lv_at hl 0 rfl) ?_
    refine va_get (D := g.1) (C := RX0) (T := TX0) (N := 3) (ci := 0) hx hb hu0 (fun _ h => h) hown hC.1 hP _ (wC_link (i := i) hi) rfl 1 (by decide) (hts (.fieldLink RX0 16 "SplicedChain$Link" "acknowledgements" "LSplicedChain$Queue;") (by decide +kernel)) (fun _ h9 => h9) rfl dX0_putAcknowledgement_8 ?_
    refine lv_iload_n hx hb dX0_putAcknowledgement_11 rfl (lv_at hl 1 rfl) ?_
    refine kV_v (w2 := wC g a n (qput s (2 * i + 1) v)) (As := [.int (nI v)]) (b := a (7 * i + 10)) (rest := []) (A1 := A) hfx (c_X2_put l hA hn6 (s := s) (i := i) (w := 1) (v := v) hi (by decide) (by omega) (by omega)) (cwV 1 hts gX0_putAcknowledgement_X2_put rfl rfl rfl (by decide +kernel) ⟨by decide, by decide⟩) (va_recv hC.1 hP (ci := 2) rfl (wC_q (i := i) (w := 1) hi (by decide))) hC hP hS (fun _ h => h) rfl hl.1 rfl (Nat.le_of_ble_eq_true rfl) dX0_putAcknowledgement_12 ⟨Nat.le_of_ble_eq_true rfl, Nat.le_of_ble_eq_true rfl⟩ (fun H locs hP hS _ _ => ?_)
    exact k_vret hx hb hr hlk (P_eq (congrArg (wC g a n) (by simp [lput]; omega)) hP) hS dX0_putAcknowledgement_15
set_option maxHeartbeats 4000000 in
set_option maxRecDepth 100000 in
/-- Link.close -/
theorem c_X0_close (l : Launch) {g : GG} {a : Nat → Nat} {n : Nat} {A : Nat → Prop} (hA : Ap A a (5 + 7 * n)) (hn6 : n ≤ 6) {s : CS} {i : Nat} (hi : i < n) : Met l yX0_close wsX0_close ({ frames := 1, cells := 0, slots := 0, locals := 20 }) (pC g [.ref (a (7 * i + 7))] (wC g a n s)) (qV g (wC g a n (lclose s i)) A) 0 0 A := by
  refine k_start (cc := cX0_close) (maxL := 1) (ret := none) (by decide) rfl (Nat.le_of_ble_eq_true rfl) ?_
  intro pr en s0 m args below meth cd hx hb hml hr hlk hts hown hin hC hP ls hl
  have hS : va_S A s0.heap s0.heap [] := va_S.rf
  have hfx : CallFix pr m cd cX0_close 1 s0 args wsX0_close RX0 := ⟨hx, hb, hml, hown, hts⟩
  have hu0 : ∀ w ∈ wsX00, w.before args s0 = true := fun w h => hts w ((by decide +kernel : ∀ w ∈ wsX00, w ∈ wsX0_close) w h)
  have hl : lv_has ls 1 [(0, .ref (a (7 * i + 7)))] := hl
  refine lv_aload_n hx hb dX0_close_0 rfl (lv_at hl 0 rfl) ?_
  refine k_ic (x := 0) hx hb dX0_close_1 (by decide) ?_
  refine va_put (D := g.1) (v := .int (nI 0)) (ty := .boolean) (C := RX0) (T := TX0) (N := 3) (ci := 0) hx hb hu0 (fun _ h => h) tyX0 tyX0_ok nmX0 hown hC.1 hP hA.D hS _ (wC_link (i := i) hi) rfl 2 (by decide) (hts (.fieldLink RX0 19 "SplicedChain$Link" "open" "Z") (by decide +kernel)) (fun _ h9 => h9) rfl (by decide +kernel) (by decide) rfl (Nat.le_of_ble_eq_true rfl) dX0_close_2 (fun H locs hP _ hS => ?_)
  have hP : va_P g.1 vwCl (wC g a n (w3 s 8 i 0 0)) H := P_eq (wp_open (i := i)) hP
  refine lv_aload_n hx hb dX0_close_5 rfl (lv_at hl 0 rfl) ?_
  refine va_get (D := g.1) (C := RX0) (T := TX0) (N := 3) (ci := 0) hx hb hu0 (fun _ h => h) hown hC.1 hP _ (wC_link (i := i) hi) rfl 0 (by decide) (hts (.fieldLink RX0 10 "SplicedChain$Link" "updates" "LSplicedChain$Queue;") (by decide +kernel)) (fun _ h9 => h9) rfl dX0_close_6 ?_
  refine kV_v (w2 := wC g a n (w3 (w3 s 8 i 0 0) 10 ((2 * i + 0)) 0 0)) (As := []) (b := a (7 * i + 8)) (rest := []) (A1 := A) hfx (c_X2_clear l hA hn6 (s := (w3 s 8 i 0 0)) (i := i) (w := 0) hi (by decide)) (cwV 0 hts gX0_close_X2_clear rfl rfl rfl (by decide +kernel) ⟨by decide, by decide⟩) (va_recv hC.1 hP (ci := 2) rfl (wC_q (i := i) (w := 0) hi (by decide))) hC hP hS (fun _ h => h) rfl hl.1 rfl (Nat.le_of_ble_eq_true rfl) dX0_close_9 ⟨Nat.le_of_ble_eq_true rfl, Nat.le_of_ble_eq_true rfl⟩ (fun H locs hP hS _ _ => ?_)
  refine lv_aload_n hx hb dX0_close_12 rfl (lv_at hl 0 rfl) ?_
  refine va_get (D := g.1) (C := RX0) (T := TX0) (N := 3) (ci := 0) hx hb hu0 (fun _ h => h) hown hC.1 hP _ (wC_link (i := i) hi) rfl 1 (by decide) (hts (.fieldLink RX0 16 "SplicedChain$Link" "acknowledgements" "LSplicedChain$Queue;") (by decide +kernel)) (fun _ h9 => h9) rfl dX0_close_13 ?_
  refine kV_v (w2 := wC g a n (w3 (w3 (w3 s 8 i 0 0) 10 ((2 * i + 0)) 0 0) 10 ((2 * i + 1)) 0 0)) (As := []) (b := a (7 * i + 10)) (rest := []) (A1 := A) hfx (c_X2_clear l hA hn6 (s := (w3 (w3 s 8 i 0 0) 10 ((2 * i + 0)) 0 0)) (i := i) (w := 1) hi (by decide)) (cwV 0 hts gX0_close_X2_clear rfl rfl rfl (by decide +kernel) ⟨by decide, by decide⟩) (va_recv hC.1 hP (ci := 2) rfl (wC_q (i := i) (w := 1) hi (by decide))) hC hP hS (fun _ h => h) rfl hl.1 rfl (Nat.le_of_ble_eq_true rfl) dX0_close_16 ⟨Nat.le_of_ble_eq_true rfl, Nat.le_of_ble_eq_true rfl⟩ (fun H locs hP hS _ _ => ?_)
  exact k_vret hx hb hr hlk hP hS dX0_close_19
