/-! THE REFERENCE'S STATE AND WORLD. s c 0 k: c = 0 chain[k]; 1 size; 2 failed[k]; 3 open[k]; 4 history[k]; 5 acked[k]; 6 keys[k]; 7 values[k]; 8 replies; 9 thrown; 10 nodes -/
def wM (g : GG) (a : Nat → Nat) (s : CS) : va_W := [(a 0, .inr (4, [.int (nI (s 10 0 0)), .int (nI (s 9 0 0)), .int (nI (s 1 0 0)), .ref (a 1), .ref (a 2), .ref (a 3), .ref (a 4), .ref (a 5), .ref (a 6), .ref (a 7), .int (nI (s 8 0 0))])), (a 1, .inl (gI g, 6, .inl (fun k => nI (s 0 0 k)))), (a 2, .inl (gZ g, 6, .inl (fun k => nI (s 2 0 k)))), (a 3, .inl (gZ g, 6, .inl (fun k => nI (s 3 0 k)))), (a 4, .inl (gI g, 6, .inl (fun k => nI (s 4 0 k)))), (a 5, .inl (gI g, 6, .inl (fun k => nI (s 5 0 k)))), (a 6, .inl (gI g, 246, .inl (fun k => nI (s 6 0 k)))), (a 7, .inl (gI g, 246, .inl (fun k => nI (s 7 0 k))))]
theorem Ap.M {A : Nat → Prop} {a : Nat → Nat} (h : Ap A a 8) {g : GG} {s : CS} : va_D A (wM g a s) := by
  have key : ∀ (k : Nat) (q : Nat × va_E), (wM g a s)[k]? = some q → k < 8 ∧ q.1 = a k := by
    intro k q hk
    match k, hk with
    | 0, hk => cases hk; exact ⟨by omega, rfl⟩
    | 1, hk => cases hk; exact ⟨by omega, rfl⟩
    | 2, hk => cases hk; exact ⟨by omega, rfl⟩
    | 3, hk => cases hk; exact ⟨by omega, rfl⟩
    | 4, hk => cases hk; exact ⟨by omega, rfl⟩
    | 5, hk => cases hk; exact ⟨by omega, rfl⟩
    | 6, hk => cases hk; exact ⟨by omega, rfl⟩
    | 7, hk => cases hk; exact ⟨by omega, rfl⟩
    | k + 8, hk => simp [wM] at hk
  refine ⟨fun i j x y hi hj hxy => ?_, fun k q hk => ?_⟩
  · obtain ⟨h1, e1⟩ := key i x hi
    obtain ⟨h2, e2⟩ := key j y hj
    exact h.1 i j h1 h2 (by rw [← e1, ← e2]; exact hxy)
  · obtain ⟨h1, e1⟩ := key k q hk
    rw [e1]; exact h.2 k h1
theorem wM_obj {g : GG} {a : Nat → Nat} {s : CS} : (wM g a s)[0]? = some (a 0, .inr (4, [.int (nI (s 10 0 0)), .int (nI (s 9 0 0)), .int (nI (s 1 0 0)), .ref (a 1), .ref (a 2), .ref (a 3), .ref (a 4), .ref (a 5), .ref (a 6), .ref (a 7), .int (nI (s 8 0 0))])) := rfl
theorem wM_chain {g : GG} {a : Nat → Nat} {s : CS} : (wM g a s)[1]? = some (a 1, .inl (gI g, 6, .inl (fun k => nI (s 0 0 k)))) := rfl
theorem wpM_chain {g : GG} {a : Nat → Nat} {s : CS} {k0 v : Nat} : (wM g a s).set 1 (a 1, .inl (gI g, 6, .inl (upd (fun k => nI (s 0 0 k)) k0 (nI v)))) = wM g a (w3 s 0 0 k0 v) := by
  have e : upd (fun k => nI (s 0 0 k)) k0 (nI v) = fun k => nI (w3 s 0 0 k0 v 0 0 k) := by funext k; by_cases hk : k = k0 <;> simp [w3, upd, hk]
  rw [e]; simp [wM, w3]
theorem wM_failed {g : GG} {a : Nat → Nat} {s : CS} : (wM g a s)[2]? = some (a 2, .inl (gZ g, 6, .inl (fun k => nI (s 2 0 k)))) := rfl
theorem wpM_failed {g : GG} {a : Nat → Nat} {s : CS} {k0 v : Nat} : (wM g a s).set 2 (a 2, .inl (gZ g, 6, .inl (upd (fun k => nI (s 2 0 k)) k0 (nI v)))) = wM g a (w3 s 2 0 k0 v) := by
  have e : upd (fun k => nI (s 2 0 k)) k0 (nI v) = fun k => nI (w3 s 2 0 k0 v 2 0 k) := by funext k; by_cases hk : k = k0 <;> simp [w3, upd, hk]
  rw [e]; simp [wM, w3]
theorem wM_open {g : GG} {a : Nat → Nat} {s : CS} : (wM g a s)[3]? = some (a 3, .inl (gZ g, 6, .inl (fun k => nI (s 3 0 k)))) := rfl
theorem wpM_open {g : GG} {a : Nat → Nat} {s : CS} {k0 v : Nat} : (wM g a s).set 3 (a 3, .inl (gZ g, 6, .inl (upd (fun k => nI (s 3 0 k)) k0 (nI v)))) = wM g a (w3 s 3 0 k0 v) := by
  have e : upd (fun k => nI (s 3 0 k)) k0 (nI v) = fun k => nI (w3 s 3 0 k0 v 3 0 k) := by funext k; by_cases hk : k = k0 <;> simp [w3, upd, hk]
  rw [e]; simp [wM, w3]
theorem wM_history {g : GG} {a : Nat → Nat} {s : CS} : (wM g a s)[4]? = some (a 4, .inl (gI g, 6, .inl (fun k => nI (s 4 0 k)))) := rfl
theorem wpM_history {g : GG} {a : Nat → Nat} {s : CS} {k0 v : Nat} : (wM g a s).set 4 (a 4, .inl (gI g, 6, .inl (upd (fun k => nI (s 4 0 k)) k0 (nI v)))) = wM g a (w3 s 4 0 k0 v) := by
  have e : upd (fun k => nI (s 4 0 k)) k0 (nI v) = fun k => nI (w3 s 4 0 k0 v 4 0 k) := by funext k; by_cases hk : k = k0 <;> simp [w3, upd, hk]
  rw [e]; simp [wM, w3]
theorem wM_acked {g : GG} {a : Nat → Nat} {s : CS} : (wM g a s)[5]? = some (a 5, .inl (gI g, 6, .inl (fun k => nI (s 5 0 k)))) := rfl
theorem wpM_acked {g : GG} {a : Nat → Nat} {s : CS} {k0 v : Nat} : (wM g a s).set 5 (a 5, .inl (gI g, 6, .inl (upd (fun k => nI (s 5 0 k)) k0 (nI v)))) = wM g a (w3 s 5 0 k0 v) := by
  have e : upd (fun k => nI (s 5 0 k)) k0 (nI v) = fun k => nI (w3 s 5 0 k0 v 5 0 k) := by funext k; by_cases hk : k = k0 <;> simp [w3, upd, hk]
  rw [e]; simp [wM, w3]
theorem wM_keys {g : GG} {a : Nat → Nat} {s : CS} : (wM g a s)[6]? = some (a 6, .inl (gI g, 246, .inl (fun k => nI (s 6 0 k)))) := rfl
theorem wpM_keys {g : GG} {a : Nat → Nat} {s : CS} {k0 v : Nat} : (wM g a s).set 6 (a 6, .inl (gI g, 246, .inl (upd (fun k => nI (s 6 0 k)) k0 (nI v)))) = wM g a (w3 s 6 0 k0 v) := by
  have e : upd (fun k => nI (s 6 0 k)) k0 (nI v) = fun k => nI (w3 s 6 0 k0 v 6 0 k) := by funext k; by_cases hk : k = k0 <;> simp [w3, upd, hk]
  rw [e]; simp [wM, w3]
theorem wM_values {g : GG} {a : Nat → Nat} {s : CS} : (wM g a s)[7]? = some (a 7, .inl (gI g, 246, .inl (fun k => nI (s 7 0 k)))) := rfl
theorem wpM_values {g : GG} {a : Nat → Nat} {s : CS} {k0 v : Nat} : (wM g a s).set 7 (a 7, .inl (gI g, 246, .inl (upd (fun k => nI (s 7 0 k)) k0 (nI v)))) = wM g a (w3 s 7 0 k0 v) := by
  have e : upd (fun k => nI (s 7 0 k)) k0 (nI v) = fun k => nI (w3 s 7 0 k0 v 7 0 k) := by funext k; by_cases hk : k = k0 <;> simp [w3, upd, hk]
  rw [e]; simp [wM, w3]
theorem wpM_size {g : GG} {a : Nat → Nat} {s : CS} {v : Nat} : (wM g a s).set 0 (a 0, .inr (4, [.int (nI (s 10 0 0)), .int (nI (s 9 0 0)), .int (nI v), .ref (a 1), .ref (a 2), .ref (a 3), .ref (a 4), .ref (a 5), .ref (a 6), .ref (a 7), .int (nI (s 8 0 0))])) = wM g a (w3 s 1 0 0 v) := by simp [wM, w3]
theorem wpM_replies {g : GG} {a : Nat → Nat} {s : CS} {v : Nat} : (wM g a s).set 0 (a 0, .inr (4, [.int (nI (s 10 0 0)), .int (nI (s 9 0 0)), .int (nI (s 1 0 0)), .ref (a 1), .ref (a 2), .ref (a 3), .ref (a 4), .ref (a 5), .ref (a 6), .ref (a 7), .int (nI v)])) = wM g a (w3 s 8 0 0 v) := by simp [wM, w3]
theorem wpM_thrown {g : GG} {a : Nat → Nat} {s : CS} {v : Nat} : (wM g a s).set 0 (a 0, .inr (4, [.int (nI (s 10 0 0)), .int (nI v), .int (nI (s 1 0 0)), .ref (a 1), .ref (a 2), .ref (a 3), .ref (a 4), .ref (a 5), .ref (a 6), .ref (a 7), .int (nI (s 8 0 0))])) = wM g a (w3 s 9 0 0 v) := by simp [wM, w3]
theorem wpM_nodes {g : GG} {a : Nat → Nat} {s : CS} {v : Nat} : (wM g a s).set 0 (a 0, .inr (4, [.int (nI v), .int (nI (s 9 0 0)), .int (nI (s 1 0 0)), .ref (a 1), .ref (a 2), .ref (a 3), .ref (a 4), .ref (a 5), .ref (a 6), .ref (a 7), .int (nI (s 8 0 0))])) = wM g a (w3 s 10 0 0 v) := by simp [wM, w3]
def Mh (n : Nat) (s : CS) : Prop := (1 ≤ s 1 0 0 ∧ s 1 0 0 ≤ n) ∧ (n ≤ 6 ∧ s 10 0 0 = n) ∧ (∀ k, k < 6 → s 0 0 k < 6) ∧ (∀ i, i < 6 → s 4 0 i ≤ 40 ∧ s 5 0 i ≤ 40 ∧ s 2 0 i ≤ 1 ∧ s 3 0 i ≤ 1) ∧ (∀ k, s 6 0 k < 8) ∧ s 8 0 0 ≤ 40
theorem Mh.ch {n : Nat} {s : CS} (h : Mh n s) (k : Nat) (hk : k < 6) : s 0 0 k < 6 := h.2.2.1 k hk
theorem Mh.nd {n : Nat} {s : CS} (h : Mh n s) (i : Nat) (hi : i < 6) : s 4 0 i ≤ 40 ∧ s 5 0 i ≤ 40 ∧ s 2 0 i ≤ 1 ∧ s 3 0 i ≤ 1 := h.2.2.2.1 i hi
theorem Mh.key {n : Nat} {s : CS} (h : Mh n s) (k : Nat) : s 6 0 k < 8 := h.2.2.2.2.1 k
theorem Mh.rp {n : Nat} {s : CS} (h : Mh n s) : s 8 0 0 ≤ 40 := h.2.2.2.2.2
theorem Mh.m0 {n : Nat} {s : CS} (h : Mh n s) {i k v : Nat} (hv : v < 6) : Mh n (w3 s 0 i k v) := by
  obtain ⟨h1, h2, h3, h4, h5, h6⟩ := h
  refine ⟨?_, ⟨h2.1, ?_⟩, fun k' hk => ?_, fun i' hi => ?_, fun u => ?_, ?_⟩
  · simp only [w3]; refine ⟨?_, ?_⟩ <;> split <;> omega
  · have := h2.2; simp only [w3]; split <;> omega
  · have := h3 k' hk; simp only [w3]; split <;> omega
  · have := h4 i' hi; simp only [w3]; refine ⟨?_, ?_, ?_, ?_⟩ <;> split <;> omega
  · have := h5 u; simp only [w3]; split <;> omega
  · simp only [w3]; split <;> omega
theorem Mh.m1 {n : Nat} {s : CS} (h : Mh n s) {i k v : Nat} (hv : 1 ≤ v ∧ v ≤ n) : Mh n (w3 s 1 i k v) := by
  obtain ⟨h1, h2, h3, h4, h5, h6⟩ := h
  refine ⟨?_, ⟨h2.1, ?_⟩, fun k' hk => ?_, fun i' hi => ?_, fun u => ?_, ?_⟩
  · simp only [w3]; refine ⟨?_, ?_⟩ <;> split <;> omega
  · have := h2.2; simp only [w3]; split <;> omega
  · have := h3 k' hk; simp only [w3]; split <;> omega
  · have := h4 i' hi; simp only [w3]; refine ⟨?_, ?_, ?_, ?_⟩ <;> split <;> omega
  · have := h5 u; simp only [w3]; split <;> omega
  · simp only [w3]; split <;> omega
theorem Mh.m2 {n : Nat} {s : CS} (h : Mh n s) {i k v : Nat} (hv : v ≤ 1) : Mh n (w3 s 2 i k v) := by
  obtain ⟨h1, h2, h3, h4, h5, h6⟩ := h
  refine ⟨?_, ⟨h2.1, ?_⟩, fun k' hk => ?_, fun i' hi => ?_, fun u => ?_, ?_⟩
  · simp only [w3]; refine ⟨?_, ?_⟩ <;> split <;> omega
  · have := h2.2; simp only [w3]; split <;> omega
  · have := h3 k' hk; simp only [w3]; split <;> omega
  · have := h4 i' hi; simp only [w3]; refine ⟨?_, ?_, ?_, ?_⟩ <;> split <;> omega
  · have := h5 u; simp only [w3]; split <;> omega
  · simp only [w3]; split <;> omega
theorem Mh.m3 {n : Nat} {s : CS} (h : Mh n s) {i k v : Nat} (hv : v ≤ 1) : Mh n (w3 s 3 i k v) := by
  obtain ⟨h1, h2, h3, h4, h5, h6⟩ := h
  refine ⟨?_, ⟨h2.1, ?_⟩, fun k' hk => ?_, fun i' hi => ?_, fun u => ?_, ?_⟩
  · simp only [w3]; refine ⟨?_, ?_⟩ <;> split <;> omega
  · have := h2.2; simp only [w3]; split <;> omega
  · have := h3 k' hk; simp only [w3]; split <;> omega
  · have := h4 i' hi; simp only [w3]; refine ⟨?_, ?_, ?_, ?_⟩ <;> split <;> omega
  · have := h5 u; simp only [w3]; split <;> omega
  · simp only [w3]; split <;> omega
theorem Mh.m4 {n : Nat} {s : CS} (h : Mh n s) {i k v : Nat} (hv : v ≤ 40) : Mh n (w3 s 4 i k v) := by
  obtain ⟨h1, h2, h3, h4, h5, h6⟩ := h
  refine ⟨?_, ⟨h2.1, ?_⟩, fun k' hk => ?_, fun i' hi => ?_, fun u => ?_, ?_⟩
  · simp only [w3]; refine ⟨?_, ?_⟩ <;> split <;> omega
  · have := h2.2; simp only [w3]; split <;> omega
  · have := h3 k' hk; simp only [w3]; split <;> omega
  · have := h4 i' hi; simp only [w3]; refine ⟨?_, ?_, ?_, ?_⟩ <;> split <;> omega
  · have := h5 u; simp only [w3]; split <;> omega
  · simp only [w3]; split <;> omega
theorem Mh.m5 {n : Nat} {s : CS} (h : Mh n s) {i k v : Nat} (hv : v ≤ 40) : Mh n (w3 s 5 i k v) := by
  obtain ⟨h1, h2, h3, h4, h5, h6⟩ := h
  refine ⟨?_, ⟨h2.1, ?_⟩, fun k' hk => ?_, fun i' hi => ?_, fun u => ?_, ?_⟩
  · simp only [w3]; refine ⟨?_, ?_⟩ <;> split <;> omega
  · have := h2.2; simp only [w3]; split <;> omega
  · have := h3 k' hk; simp only [w3]; split <;> omega
  · have := h4 i' hi; simp only [w3]; refine ⟨?_, ?_, ?_, ?_⟩ <;> split <;> omega
  · have := h5 u; simp only [w3]; split <;> omega
  · simp only [w3]; split <;> omega
theorem Mh.m6 {n : Nat} {s : CS} (h : Mh n s) {i k v : Nat} (hv : v < 8) : Mh n (w3 s 6 i k v) := by
  obtain ⟨h1, h2, h3, h4, h5, h6⟩ := h
  refine ⟨?_, ⟨h2.1, ?_⟩, fun k' hk => ?_, fun i' hi => ?_, fun u => ?_, ?_⟩
  · simp only [w3]; refine ⟨?_, ?_⟩ <;> split <;> omega
  · have := h2.2; simp only [w3]; split <;> omega
  · have := h3 k' hk; simp only [w3]; split <;> omega
  · have := h4 i' hi; simp only [w3]; refine ⟨?_, ?_, ?_, ?_⟩ <;> split <;> omega
  · have := h5 u; simp only [w3]; split <;> omega
  · simp only [w3]; split <;> omega
theorem Mh.m7 {n : Nat} {s : CS} (h : Mh n s) {i k v : Nat}  : Mh n (w3 s 7 i k v) := by
  obtain ⟨h1, h2, h3, h4, h5, h6⟩ := h
  refine ⟨?_, ⟨h2.1, ?_⟩, fun k' hk => ?_, fun i' hi => ?_, fun u => ?_, ?_⟩
  · simp only [w3]; refine ⟨?_, ?_⟩ <;> split <;> omega
  · have := h2.2; simp only [w3]; split <;> omega
  · have := h3 k' hk; simp only [w3]; split <;> omega
  · have := h4 i' hi; simp only [w3]; refine ⟨?_, ?_, ?_, ?_⟩ <;> split <;> omega
  · have := h5 u; simp only [w3]; split <;> omega
  · simp only [w3]; split <;> omega
theorem Mh.m8 {n : Nat} {s : CS} (h : Mh n s) {i k v : Nat} (hv : v ≤ 40) : Mh n (w3 s 8 i k v) := by
  obtain ⟨h1, h2, h3, h4, h5, h6⟩ := h
  refine ⟨?_, ⟨h2.1, ?_⟩, fun k' hk => ?_, fun i' hi => ?_, fun u => ?_, ?_⟩
  · simp only [w3]; refine ⟨?_, ?_⟩ <;> split <;> omega
  · have := h2.2; simp only [w3]; split <;> omega
  · have := h3 k' hk; simp only [w3]; split <;> omega
  · have := h4 i' hi; simp only [w3]; refine ⟨?_, ?_, ?_, ?_⟩ <;> split <;> omega
  · have := h5 u; simp only [w3]; split <;> omega
  · simp only [w3]; split <;> omega
theorem Mh.m9 {n : Nat} {s : CS} (h : Mh n s) {i k v : Nat}  : Mh n (w3 s 9 i k v) := by
  obtain ⟨h1, h2, h3, h4, h5, h6⟩ := h
  refine ⟨?_, ⟨h2.1, ?_⟩, fun k' hk => ?_, fun i' hi => ?_, fun u => ?_, ?_⟩
  · simp only [w3]; refine ⟨?_, ?_⟩ <;> split <;> omega
  · have := h2.2; simp only [w3]; split <;> omega
  · have := h3 k' hk; simp only [w3]; split <;> omega
  · have := h4 i' hi; simp only [w3]; refine ⟨?_, ?_, ?_, ?_⟩ <;> split <;> omega
  · have := h5 u; simp only [w3]; split <;> omega
  · simp only [w3]; split <;> omega
def ap0 (s : CS) (nd k v : Nat) : CS := w3 (w3 (w3 s 4 0 nd (s 4 0 nd + 1)) 6 0 (41 * nd + (s 4 0 nd + 1)) k) 7 0 (41 * nd + (s 4 0 nd + 1)) v
def apM (s : CS) (nd k v : Nat) : CS := if nd = s 0 0 (s 1 0 0 - 1) then w3 (w3 (ap0 s nd k v) 5 0 nd (s 4 0 nd + 1)) 8 0 0 (s 4 0 nd + 1) else ap0 s nd k v
theorem apM_h {s : CS} {nd k v : Nat} : apM s nd k v 4 0 nd = s 4 0 nd + 1 := by unfold apM ap0; split <;> simp [w3]
def valF (s : CS) (nd k : Nat) : Nat → Nat
  | 0 => 0
  | u + 1 => if s 6 0 (41 * nd + (u + 1)) = k then s 7 0 (41 * nd + (u + 1)) else valF s nd k u
theorem k78 {x : Int32} (h : nI 8 ≤ x) : ¬ x ≤ nI 7 := fun q => absurd (Int32.le_trans h q) (by decide)
set_option maxHeartbeats 4000000 in
set_option maxRecDepth 100000 in
/-- thrown -/
theorem c_X4_thrown (l : Launch) {g : GG} {a : Nat → Nat} {n : Nat} {A : Nat → Prop} (hA : Ap A a 8) {s : CS}   : Met l yX4_thrown wsX4_thrown ({ frames := 0, cells := 0, slots := 0, locals := 0 }) (pC g [.ref (a 0)] (wM g a s)) (qI g (nI (s 9 0 0)) (wM g a s) A) 0 0 A := by
  refine k_start (cc := cX4_thrown) (maxL := 1) (ret := (some .int)) (by decide) rfl (Nat.le_of_ble_eq_true rfl) ?_
  intro pr en s0 m args below meth cd hx hb hml hr hlk hts hown hin hC hP ls hl
  have hS : va_S A s0.heap s0.heap [] := va_S.rf
  have hfx : CallFix pr m cd cX4_thrown 1 s0 args wsX4_thrown RX4 := ⟨hx, hb, hml, hown, hts⟩
  have hu4 : ∀ w ∈ wsX40, w.before args s0 = true := fun w h => hts w ((by decide +kernel : ∀ w ∈ wsX40, w ∈ wsX4_thrown) w h)
  have hl : lv_has ls 1 [(0, .ref (a 0))] := hl
  refine lv_aload_n hx hb dX4_thrown_0 rfl (lv_at hl 0 rfl) ?_
  refine va_get (D := g.1) (C := RX4) (T := TX4) (N := 11) (ci := 4) hx hb hu4 (fun _ h => h) hown hC.1 hP _ (wM_obj) rfl 1 (by decide) (hts (.fieldLink RX4 39 "SplicedChainModel" "thrown" "I") (by decide +kernel)) (fun _ h9 => h9) rfl dX4_thrown_1 ?_
  exact k_iret hx hb hr hlk (by rfl) hP hS dX4_thrown_4
set_option maxHeartbeats 4000000 in
set_option maxRecDepth 100000 in
/-- throwsIt -/
theorem c_X4_throwsIt (l : Launch) {g : GG} {a : Nat → Nat} {n : Nat} {A : Nat → Prop} (hA : Ap A a 8) {s : CS} {c : Nat} (hc : 0 < c ∧ c < 10) : Met l yX4_throwsIt wsX4_throwsIt ({ frames := 0, cells := 0, slots := 0, locals := 0 }) (pC g [.ref (a 0), .int (nI c)] (wM g a s)) (qI g (nI 1) (wM g a (w3 s 9 0 0 c)) A) 0 0 A := by
  refine k_start (cc := cX4_throwsIt) (maxL := 2) (ret := (some .boolean)) (by decide) rfl (Nat.le_of_ble_eq_true rfl) ?_
  intro pr en s0 m args below meth cd hx hb hml hr hlk hts hown hin hC hP ls hl
  have hS : va_S A s0.heap s0.heap [] := va_S.rf
  have hfx : CallFix pr m cd cX4_throwsIt 2 s0 args wsX4_throwsIt RX4 := ⟨hx, hb, hml, hown, hts⟩
  have hu4 : ∀ w ∈ wsX40, w.before args s0 = true := fun w h => hts w ((by decide +kernel : ∀ w ∈ wsX40, w ∈ wsX4_throwsIt) w h)
  have hl : lv_has ls 2 [(0, .ref (a 0)), (1, .int (nI c))] := hl
  refine lv_aload_n hx hb dX4_throwsIt_0 rfl (lv_at hl 0 rfl) ?_
  refine lv_iload_n hx hb dX4_throwsIt_1 rfl (lv_at hl 1 rfl) ?_
  refine va_put (D := g.1) (v := .int (nI c)) (ty := .int) (C := RX4) (T := TX4) (N := 11) (ci := 4) hx hb hu4 (fun _ h => h) tyX4 tyX4_ok nmX4 hown hC.1 hP hA.M hS _ (wM_obj) rfl 1 (by decide) (hts (.fieldLink RX4 39 "SplicedChainModel" "thrown" "I") (by decide +kernel)) (fun _ h9 => h9) rfl (by decide +kernel) rfl rfl (Nat.le_of_ble_eq_true rfl) dX4_throwsIt_2 (fun H locs hP _ hS => ?_)
  have hP : va_P g.1 vwCl (wM g a (w3 s 9 0 0 c)) H := P_eq wpM_thrown hP
  refine lv_iload_n hx hb dX4_throwsIt_5 rfl (lv_at hl 1 rfl) ?_
  refine k_if_eq (tgt := 13) hx hb dX4_throwsIt_6 (by decide) (by omega) (fun c6 => ?_) (fun c6 => ?_)
  · exfalso; omega
  · skip
    refine k_ic (x := 1) hx hb dX4_throwsIt_9 (by decide) ?_
    refine lv_goto (tgt := 14) hx hb dX4_throwsIt_10 (by decide) ?_
    exact k_zret hx hb hr hlk (by rfl) (by decide) hP hS dX4_throwsIt_14
set_option maxHeartbeats 4000000 in
set_option maxRecDepth 100000 in
/-- throwsIt 0 -/
theorem c_X4_throwsIt_0 (l : Launch) {g : GG} {a : Nat → Nat} {n : Nat} {A : Nat → Prop} (hA : Ap A a 8) {s : CS}   : Met l yX4_throwsIt wsX4_throwsIt ({ frames := 0, cells := 0, slots := 0, locals := 0 }) (pC g [.ref (a 0), .int (nI 0)] (wM g a s)) (qI g (nI 0) (wM g a (w3 s 9 0 0 0)) A) 0 0 A := by
  refine k_start (cc := cX4_throwsIt) (maxL := 2) (ret := (some .boolean)) (by decide) rfl (Nat.le_of_ble_eq_true rfl) ?_
  intro pr en s0 m args below meth cd hx hb hml hr hlk hts hown hin hC hP ls hl
  have hS : va_S A s0.heap s0.heap [] := va_S.rf
  have hfx : CallFix pr m cd cX4_throwsIt 2 s0 args wsX4_throwsIt RX4 := ⟨hx, hb, hml, hown, hts⟩
  have hu4 : ∀ w ∈ wsX40, w.before args s0 = true := fun w h => hts w ((by decide +kernel : ∀ w ∈ wsX40, w ∈ wsX4_throwsIt) w h)
  have hl : lv_has ls 2 [(0, .ref (a 0)), (1, .int (nI 0))] := hl
  refine lv_aload_n hx hb dX4_throwsIt_0 rfl (lv_at hl 0 rfl) ?_
  refine lv_iload_n hx hb dX4_throwsIt_1 rfl (lv_at hl 1 rfl) ?_
  refine va_put (D := g.1) (v := .int (nI 0)) (ty := .int) (C := RX4) (T := TX4) (N := 11) (ci := 4) hx hb hu4 (fun _ h => h) tyX4 tyX4_ok nmX4 hown hC.1 hP hA.M hS _ (wM_obj) rfl 1 (by decide) (hts (.fieldLink RX4 39 "SplicedChainModel" "thrown" "I") (by decide +kernel)) (fun _ h9 => h9) rfl (by decide +kernel) rfl rfl (Nat.le_of_ble_eq_true rfl) dX4_throwsIt_2 (fun H locs hP _ hS => ?_)
  have hP : va_P g.1 vwCl (wM g a (w3 s 9 0 0 0)) H := P_eq wpM_thrown hP
  refine lv_iload_n hx hb dX4_throwsIt_5 rfl (lv_at hl 1 rfl) ?_
  refine k_if_eq (tgt := 13) hx hb dX4_throwsIt_6 (by decide) (by omega) (fun c6 => ?_) (fun c6 => ?_)
  · skip
    refine k_ic (x := 0) hx hb dX4_throwsIt_13 (by decide) ?_
    exact k_zret hx hb hr hlk (by rfl) (by decide) hP hS dX4_throwsIt_14
  · exfalso; omega
set_option maxHeartbeats 4000000 in
set_option maxRecDepth 100000 in
/-- isNode -/
theorem c_X4_isNode (l : Launch) {g : GG} {a : Nat → Nat} {n : Nat} {A : Nat → Prop} (hA : Ap A a 8) {s : CS} (hm : Mh n s) {j : Nat} (hj : j < n) : Met l yX4_isNode wsX4_isNode ({ frames := 0, cells := 0, slots := 0, locals := 0 }) (pC g [.ref (a 0), .int (nI j)] (wM g a s)) (qI g (nI 1) (wM g a s) A) 0 0 A := by
  refine k_start (cc := cX4_isNode) (maxL := 2) (ret := (some .boolean)) (by decide) rfl (Nat.le_of_ble_eq_true rfl) ?_
  intro pr en s0 m args below meth cd hx hb hml hr hlk hts hown hin hC hP ls hl
  have hS : va_S A s0.heap s0.heap [] := va_S.rf
  have hfx : CallFix pr m cd cX4_isNode 2 s0 args wsX4_isNode RX4 := ⟨hx, hb, hml, hown, hts⟩
  have hu4 : ∀ w ∈ wsX40, w.before args s0 = true := fun w h => hts w ((by decide +kernel : ∀ w ∈ wsX40, w ∈ wsX4_isNode) w h)
  have hl : lv_has ls 2 [(0, .ref (a 0)), (1, .int (nI j))] := hl
  have m0 := hm.1
  have m1 := hm.2.1
  refine lv_iload_n hx hb dX4_isNode_0 rfl (lv_at hl 1 rfl) ?_
  refine lv_if_lt (tgt := 16) hx hb dX4_isNode_1 (by decide) (fun c1 => ?_) (fun c1 => ?_)
  · exact absurd c1 (nI_pos (by omega))
  · skip
    refine lv_iload_n hx hb dX4_isNode_4 rfl (lv_at hl 1 rfl) ?_
    refine lv_aload_n hx hb dX4_isNode_5 rfl (lv_at hl 0 rfl) ?_
    refine va_get (D := g.1) (C := RX4) (T := TX4) (N := 11) (ci := 4) hx hb hu4 (fun _ h => h) hown hC.1 hP _ (wM_obj) rfl 0 (by decide) (hts (.fieldLink RX4 32 "SplicedChainModel" "nodes" "I") (by decide +kernel)) (fun _ h9 => h9) rfl dX4_isNode_6 ?_
    refine k_icmp_ge (tgt := 16) hx hb dX4_isNode_9 (by decide) (by omega) (by omega) (fun c9 => ?_) (fun c9 => ?_)
    · exfalso; omega
    · skip
      refine k_ic (x := 1) hx hb dX4_isNode_12 (by decide) ?_
      refine lv_goto (tgt := 17) hx hb dX4_isNode_13 (by decide) ?_
      exact k_zret hx hb hr hlk (by rfl) (by decide) hP hS dX4_isNode_17
set_option maxHeartbeats 4000000 in
set_option maxRecDepth 100000 in
/-- isNode: no -/
theorem c_X4_isNode_no (l : Launch) {g : GG} {a : Nat → Nat} {n : Nat} {A : Nat → Prop} (hA : Ap A a 8) {s : CS} (hm : Mh n s) {x : Int32} (hbad : x < 0 ∨ nI n ≤ x) : Met l yX4_isNode wsX4_isNode ({ frames := 0, cells := 0, slots := 0, locals := 0 }) (pC g [.ref (a 0), .int (x)] (wM g a s)) (qI g (nI 0) (wM g a s) A) 0 0 A := by
  refine k_start (cc := cX4_isNode) (maxL := 2) (ret := (some .boolean)) (by decide) rfl (Nat.le_of_ble_eq_true rfl) ?_
  intro pr en s0 m args below meth cd hx hb hml hr hlk hts hown hin hC hP ls hl
  have hS : va_S A s0.heap s0.heap [] := va_S.rf
  have hfx : CallFix pr m cd cX4_isNode 2 s0 args wsX4_isNode RX4 := ⟨hx, hb, hml, hown, hts⟩
  have hu4 : ∀ w ∈ wsX40, w.before args s0 = true := fun w h => hts w ((by decide +kernel : ∀ w ∈ wsX40, w ∈ wsX4_isNode) w h)
  have hl : lv_has ls 2 [(0, .ref (a 0)), (1, .int (x))] := hl
  have m0 := hm.1
  have m1 := hm.2.1
  refine lv_iload_n hx hb dX4_isNode_0 rfl (lv_at hl 1 rfl) ?_
  refine lv_if_lt (tgt := 16) hx hb dX4_isNode_1 (by decide) (fun c1 => ?_) (fun c1 => ?_)
  · skip
    refine k_ic (x := 0) hx hb dX4_isNode_16 (by decide) ?_
    exact k_zret hx hb hr hlk (by rfl) (by decide) hP hS dX4_isNode_17
  · skip
    refine lv_iload_n hx hb dX4_isNode_4 rfl (lv_at hl 1 rfl) ?_
    refine lv_aload_n hx hb dX4_isNode_5 rfl (lv_at hl 0 rfl) ?_
    refine va_get (D := g.1) (C := RX4) (T := TX4) (N := 11) (ci := 4) hx hb hu4 (fun _ h => h) hown hC.1 hP _ (wM_obj) rfl 0 (by decide) (hts (.fieldLink RX4 32 "SplicedChainModel" "nodes" "I") (by decide +kernel)) (fun _ h9 => h9) rfl dX4_isNode_6 ?_
    refine lv_icmp_ge (tgt := 16) hx hb dX4_isNode_9 (by decide) (fun c9 => ?_) (fun c9 => ?_)
    · skip
      refine k_ic (x := 0) hx hb dX4_isNode_16 (by decide) ?_
      exact k_zret hx hb hr hlk (by rfl) (by decide) hP hS dX4_isNode_17
    · exact absurd (by rw [m1.2]; exact hbad.resolve_left c1) c9
set_option maxHeartbeats 4000000 in
set_option maxRecDepth 100000 in
/-- placeOf -/
theorem c_X4_placeOf (l : Launch) {g : GG} {a : Nat → Nat} {n : Nat} {A : Nat → Prop} (hA : Ap A a 8) {s : CS} (hm : Mh n s) {p nd : Nat} (hnd : nd < n) (hp : p < s 1 0 0) (hpe : s 0 0 p = nd) (hu : ∀ k, k < s 1 0 0 → k ≠ p → s 0 0 k ≠ nd) : Met l yX4_placeOf wsX4_placeOf ({ frames := 0, cells := 0, slots := 0, locals := 0 }) (pC g [.ref (a 0), .int (nI nd)] (wM g a s)) (qI g (nI p) (wM g a s) A) 0 0 A := by
  refine k_start (cc := cX4_placeOf) (maxL := 4) (ret := (some .int)) (by decide) rfl (Nat.le_of_ble_eq_true rfl) ?_
  intro pr en s0 m args below meth cd hx hb hml hr hlk hts hown hin hC hP ls hl
  have hS : va_S A s0.heap s0.heap [] := va_S.rf
  have hfx : CallFix pr m cd cX4_placeOf 4 s0 args wsX4_placeOf RX4 := ⟨hx, hb, hml, hown, hts⟩
  have hu4 : ∀ w ∈ wsX40, w.before args s0 = true := fun w h => hts w ((by decide +kernel : ∀ w ∈ wsX40, w ∈ wsX4_placeOf) w h)
  have hl : lv_has ls 4 [(0, .ref (a 0)), (1, .int (nI nd))] := hl
  have m0 := hm.1
  have m1 := hm.2.1
  have loop : ∀ (d k : Nat), s 1 0 0 + 1 ≤ k + d → k ≤ s 1 0 0 → ∀ P : Int32, ((k ≤ p → P = -1) ∧ (p < k → P = nI p)) → ∀ ls : Array Slot, lv_has ls 4 [(3, .int (nI k)), (2, .int (P)), (0, .ref (a 0)), (1, .int (nI nd))] → W pr l en ({ frames := 0, cells := 0, slots := 0, locals := 0 }) s0 m args below meth cd s0.heap [] 0 0 (MQ below (qI g (nI p) (wM g a s) A) args s0 0 0 A) (F0 m 4 ls []) := by
    intro d
    induction d with
    | zero => intro k h1 h2; exact absurd h1 (by omega)
    | succ d ih =>
      intro k h1 h2 P hQ ls hl
      refine lv_iload_n hx hb dX4_placeOf_4 rfl (lv_at hl 0 rfl) ?_
      refine lv_aload_n hx hb dX4_placeOf_5 rfl (lv_at hl 2 rfl) ?_
      refine va_get (D := g.1) (C := RX4) (T := TX4) (N := 11) (ci := 4) hx hb hu4 (fun _ h => h) hown hC.1 hP _ (wM_obj) rfl 2 (by decide) (hts (.fieldLink RX4 36 "SplicedChainModel" "size" "I") (by decide +kernel)) (fun _ h9 => h9) rfl dX4_placeOf_6 ?_
      refine k_icmp_ge (tgt := 34) hx hb dX4_placeOf_9 (by decide) (by omega) (by omega) (fun c9 => ?_) (fun c9 => ?_)
      · skip
        refine lv_iload_n hx hb dX4_placeOf_34 rfl (lv_at hl 1 rfl) ?_
        exact k_iret hx hb hr hlk (by exact hQ.2 (by omega)) hP hS dX4_placeOf_35
      · skip
        have f1 := hm.ch k (by omega)
        refine lv_aload_n hx hb dX4_placeOf_12 rfl (lv_at hl 2 rfl) ?_
        refine va_get (D := g.1) (C := RX4) (T := TX4) (N := 11) (ci := 4) hx hb hu4 (fun _ h => h) hown hC.1 hP _ (wM_obj) rfl 3 (by decide) (hts (.fieldLink RX4 7 "SplicedChainModel" "chain" "[I") (by decide +kernel)) (fun _ h9 => h9) rfl dX4_placeOf_13 ?_
        refine lv_iload_n hx hb dX4_placeOf_16 rfl (lv_at hl 0 rfl) ?_
        refine k_iald hx hb hC hP _ (wM_chain) (j := k) (by omega) (by omega) dX4_placeOf_17 ?_
        refine lv_iload_n hx hb dX4_placeOf_18 rfl (lv_at hl 3 rfl) ?_
        refine k_icmp_ne (tgt := 26) hx hb dX4_placeOf_19 (by decide) (by omega) (by omega) (fun c19 => ?_) (fun c19 => ?_)
        · skip
          have f2 : k ≠ p := fun q => c19 (by rw [q]; exact hpe)
          refine lv_iload_n hx hb dX4_placeOf_26 rfl (lv_at hl 1 rfl) ?_
          refine lv_istore_n (lv' := [(2, .int (P)), (3, .int (nI k)), (0, .ref (a 0)), (1, .int (nI nd))]) hx hb dX4_placeOf_27 rfl hl (by decide) rfl (fun ls hl => ?_)
          refine lv_iinc (v := nI (k + 1)) (lv' := [(3, .int (nI (k + 1))), (2, .int (P)), (0, .ref (a 0)), (1, .int (nI nd))]) hx hb dX4_placeOf_28 hl (k := 1) rfl (nI_add _ _) (by decide) rfl (fun ls hl => ?_)
          refine lv_goto (tgt := 4) hx hb dX4_placeOf_31 (by decide) ?_
          exact ih (k + 1) (by omega) (by omega) P ⟨fun q => hQ.1 (by omega), fun q => hQ.2 (by omega)⟩ ls (lv_sub hl [0, 1, 2, 3] rfl)
        · skip
          have f2 : k = p := Decidable.byContradiction fun q => hu k (by omega) q c19
          refine lv_iload_n hx hb dX4_placeOf_22 rfl (lv_at hl 0 rfl) ?_
          refine lv_goto (tgt := 27) hx hb dX4_placeOf_23 (by decide) ?_
          refine lv_istore_n (lv' := [(2, .int (nI k)), (3, .int (nI k)), (0, .ref (a 0)), (1, .int (nI nd))]) hx hb dX4_placeOf_27 rfl hl (by decide) rfl (fun ls hl => ?_)
          refine lv_iinc (v := nI (k + 1)) (lv' := [(3, .int (nI (k + 1))), (2, .int (nI k)), (0, .ref (a 0)), (1, .int (nI nd))]) hx hb dX4_placeOf_28 hl (k := 1) rfl (nI_add _ _) (by decide) rfl (fun ls hl => ?_)
          refine lv_goto (tgt := 4) hx hb dX4_placeOf_31 (by decide) ?_
          exact ih (k + 1) (by omega) (by omega) (nI k) ⟨fun q => absurd q (by omega), fun _ => by rw [f2]⟩ ls (lv_sub hl [0, 1, 2, 3] rfl)
  refine lv_iconst (v := -1) hx hb dX4_placeOf_0 (by decide) ?_
  refine lv_istore_n (lv' := [(2, .int (-1)), (0, .ref (a 0)), (1, .int (nI nd))]) hx hb dX4_placeOf_1 rfl hl (by decide) rfl (fun ls hl => ?_)
  refine k_ic (x := 0) hx hb dX4_placeOf_2 (by decide) ?_
  refine lv_istore_n (lv' := [(3, .int (nI 0)), (2, .int (-1)), (0, .ref (a 0)), (1, .int (nI nd))]) hx hb dX4_placeOf_3 rfl hl (by decide) rfl (fun ls hl => ?_)
  exact loop (s 1 0 0 + 1) 0 (by omega) (by omega) (-1) ⟨fun _ => rfl, fun q => absurd q (by omega)⟩ ls (lv_sub hl [0, 1, 2, 3] rfl)
set_option maxHeartbeats 4000000 in
set_option maxRecDepth 100000 in
/-- placeOf -/
theorem c_X4_placeOf_no (l : Launch) {g : GG} {a : Nat → Nat} {n : Nat} {A : Nat → Prop} (hA : Ap A a 8) {s : CS} (hm : Mh n s) {nd : Nat} (hnd : nd < n) (hno : ∀ k, k < s 1 0 0 → s 0 0 k ≠ nd) : Met l yX4_placeOf wsX4_placeOf ({ frames := 0, cells := 0, slots := 0, locals := 0 }) (pC g [.ref (a 0), .int (nI nd)] (wM g a s)) (qI g (-1) (wM g a s) A) 0 0 A := by
  refine k_start (cc := cX4_placeOf) (maxL := 4) (ret := (some .int)) (by decide) rfl (Nat.le_of_ble_eq_true rfl) ?_
  intro pr en s0 m args below meth cd hx hb hml hr hlk hts hown hin hC hP ls hl
  have hS : va_S A s0.heap s0.heap [] := va_S.rf
  have hfx : CallFix pr m cd cX4_placeOf 4 s0 args wsX4_placeOf RX4 := ⟨hx, hb, hml, hown, hts⟩
  have hu4 : ∀ w ∈ wsX40, w.before args s0 = true := fun w h => hts w ((by decide +kernel : ∀ w ∈ wsX40, w ∈ wsX4_placeOf) w h)
  have hl : lv_has ls 4 [(0, .ref (a 0)), (1, .int (nI nd))] := hl
  have m0 := hm.1
  have m1 := hm.2.1
  have loop : ∀ (d k : Nat), s 1 0 0 + 1 ≤ k + d → k ≤ s 1 0 0 → ∀ P : Int32, P = -1 → ∀ ls : Array Slot, lv_has ls 4 [(3, .int (nI k)), (2, .int (P)), (0, .ref (a 0)), (1, .int (nI nd))] → W pr l en ({ frames := 0, cells := 0, slots := 0, locals := 0 }) s0 m args below meth cd s0.heap [] 0 0 (MQ below (qI g (-1) (wM g a s) A) args s0 0 0 A) (F0 m 4 ls []) := by
    intro d
    induction d with
    | zero => intro k h1 h2; exact absurd h1 (by omega)
    | succ d ih =>
      intro k h1 h2 P hQ ls hl
      refine lv_iload_n hx hb dX4_placeOf_4 rfl (lv_at hl 0 rfl) ?_
      refine lv_aload_n hx hb dX4_placeOf_5 rfl (lv_at hl 2 rfl) ?_
      refine va_get (D := g.1) (C := RX4) (T := TX4) (N := 11) (ci := 4) hx hb hu4 (fun _ h => h) hown hC.1 hP _ (wM_obj) rfl 2 (by decide) (hts (.fieldLink RX4 36 "SplicedChainModel" "size" "I") (by decide +kernel)) (fun _ h9 => h9) rfl dX4_placeOf_6 ?_
      refine k_icmp_ge (tgt := 34) hx hb dX4_placeOf_9 (by decide) (by omega) (by omega) (fun c9 => ?_) (fun c9 => ?_)
      · skip
        refine lv_iload_n hx hb dX4_placeOf_34 rfl (lv_at hl 1 rfl) ?_
        exact k_iret hx hb hr hlk (by exact hQ) hP hS dX4_placeOf_35
      · skip
        have f1 := hm.ch k (by omega)
        refine lv_aload_n hx hb dX4_placeOf_12 rfl (lv_at hl 2 rfl) ?_
        refine va_get (D := g.1) (C := RX4) (T := TX4) (N := 11) (ci := 4) hx hb hu4 (fun _ h => h) hown hC.1 hP _ (wM_obj) rfl 3 (by decide) (hts (.fieldLink RX4 7 "SplicedChainModel" "chain" "[I") (by decide +kernel)) (fun _ h9 => h9) rfl dX4_placeOf_13 ?_
        refine lv_iload_n hx hb dX4_placeOf_16 rfl (lv_at hl 0 rfl) ?_
        refine k_iald hx hb hC hP _ (wM_chain) (j := k) (by omega) (by omega) dX4_placeOf_17 ?_
        refine lv_iload_n hx hb dX4_placeOf_18 rfl (lv_at hl 3 rfl) ?_
        refine k_icmp_ne (tgt := 26) hx hb dX4_placeOf_19 (by decide) (by omega) (by omega) (fun c19 => ?_) (fun c19 => ?_)
        · skip
          refine lv_iload_n hx hb dX4_placeOf_26 rfl (lv_at hl 1 rfl) ?_
          refine lv_istore_n (lv' := [(2, .int (P)), (3, .int (nI k)), (0, .ref (a 0)), (1, .int (nI nd))]) hx hb dX4_placeOf_27 rfl hl (by decide) rfl (fun ls hl => ?_)
          refine lv_iinc (v := nI (k + 1)) (lv' := [(3, .int (nI (k + 1))), (2, .int (P)), (0, .ref (a 0)), (1, .int (nI nd))]) hx hb dX4_placeOf_28 hl (k := 1) rfl (nI_add _ _) (by decide) rfl (fun ls hl => ?_)
          refine lv_goto (tgt := 4) hx hb dX4_placeOf_31 (by decide) ?_
          exact ih (k + 1) (by omega) (by omega) P hQ ls (lv_sub hl [0, 1, 2, 3] rfl)
        · exact absurd c19 (hno k (by omega))
  refine lv_iconst (v := -1) hx hb dX4_placeOf_0 (by decide) ?_
  refine lv_istore_n (lv' := [(2, .int (-1)), (0, .ref (a 0)), (1, .int (nI nd))]) hx hb dX4_placeOf_1 rfl hl (by decide) rfl (fun ls hl => ?_)
  refine k_ic (x := 0) hx hb dX4_placeOf_2 (by decide) ?_
  refine lv_istore_n (lv' := [(3, .int (nI 0)), (2, .int (-1)), (0, .ref (a 0)), (1, .int (nI nd))]) hx hb dX4_placeOf_3 rfl hl (by decide) rfl (fun ls hl => ?_)
  exact loop (s 1 0 0 + 1) 0 (by omega) (by omega) (-1) rfl ls (lv_sub hl [0, 1, 2, 3] rfl)
set_option maxHeartbeats 4000000 in
set_option maxRecDepth 100000 in
/-- first -/
theorem c_X4_first (l : Launch) {g : GG} {a : Nat → Nat} {n : Nat} {A : Nat → Prop} (hA : Ap A a 8) {s : CS} {x : Nat} (hxe : s 0 0 0 = x) : Met l yX4_first wsX4_first ({ frames := 0, cells := 0, slots := 0, locals := 0 }) (pC g [.ref (a 0)] (wM g a s)) (qI g (nI x) (wM g a s) A) 0 0 A := by
  refine k_start (cc := cX4_first) (maxL := 1) (ret := (some .int)) (by decide) rfl (Nat.le_of_ble_eq_true rfl) ?_
  intro pr en s0 m args below meth cd hx hb hml hr hlk hts hown hin hC hP ls hl
  have hS : va_S A s0.heap s0.heap [] := va_S.rf
  have hfx : CallFix pr m cd cX4_first 1 s0 args wsX4_first RX4 := ⟨hx, hb, hml, hown, hts⟩
  have hu4 : ∀ w ∈ wsX40, w.before args s0 = true := fun w h => hts w ((by decide +kernel : ∀ w ∈ wsX40, w ∈ wsX4_first) w h)
  have hl : lv_has ls 1 [(0, .ref (a 0))] := hl
  subst hxe
  refine lv_aload_n hx hb dX4_first_0 rfl (lv_at hl 0 rfl) ?_
  refine va_get (D := g.1) (C := RX4) (T := TX4) (N := 11) (ci := 4) hx hb hu4 (fun _ h => h) hown hC.1 hP _ (wM_obj) rfl 3 (by decide) (hts (.fieldLink RX4 7 "SplicedChainModel" "chain" "[I") (by decide +kernel)) (fun _ h9 => h9) rfl dX4_first_1 ?_
  refine k_ic (x := 0) hx hb dX4_first_4 (by decide) ?_
  refine k_iald hx hb hC hP _ (wM_chain) (j := 0) (by omega) (by omega) dX4_first_5 ?_
  exact k_iret hx hb hr hlk (by rfl) hP hS dX4_first_6
set_option maxHeartbeats 4000000 in
set_option maxRecDepth 100000 in
/-- last -/
theorem c_X4_last (l : Launch) {g : GG} {a : Nat → Nat} {n : Nat} {A : Nat → Prop} (hA : Ap A a 8) {s : CS} {L x : Nat} (hL : s 1 0 0 = L) (hxe : s 0 0 (L - 1) = x) (hL1 : 1 ≤ L ∧ L ≤ 6) : Met l yX4_last wsX4_last ({ frames := 0, cells := 0, slots := 0, locals := 0 }) (pC g [.ref (a 0)] (wM g a s)) (qI g (nI x) (wM g a s) A) 0 0 A := by
  refine k_start (cc := cX4_last) (maxL := 1) (ret := (some .int)) (by decide) rfl (Nat.le_of_ble_eq_true rfl) ?_
  intro pr en s0 m args below meth cd hx hb hml hr hlk hts hown hin hC hP ls hl
  have hS : va_S A s0.heap s0.heap [] := va_S.rf
  have hfx : CallFix pr m cd cX4_last 1 s0 args wsX4_last RX4 := ⟨hx, hb, hml, hown, hts⟩
  have hu4 : ∀ w ∈ wsX40, w.before args s0 = true := fun w h => hts w ((by decide +kernel : ∀ w ∈ wsX40, w ∈ wsX4_last) w h)
  have hl : lv_has ls 1 [(0, .ref (a 0))] := hl
  subst hL
  subst hxe
  refine lv_aload_n hx hb dX4_last_0 rfl (lv_at hl 0 rfl) ?_
  refine va_get (D := g.1) (C := RX4) (T := TX4) (N := 11) (ci := 4) hx hb hu4 (fun _ h => h) hown hC.1 hP _ (wM_obj) rfl 3 (by decide) (hts (.fieldLink RX4 7 "SplicedChainModel" "chain" "[I") (by decide +kernel)) (fun _ h9 => h9) rfl dX4_last_1 ?_
  refine lv_aload_n hx hb dX4_last_4 rfl (lv_at hl 0 rfl) ?_
  refine va_get (D := g.1) (C := RX4) (T := TX4) (N := 11) (ci := 4) hx hb hu4 (fun _ h => h) hown hC.1 hP _ (wM_obj) rfl 2 (by decide) (hts (.fieldLink RX4 36 "SplicedChainModel" "size" "I") (by decide +kernel)) (fun _ h9 => h9) rfl dX4_last_5 ?_
  refine k_ic (x := 1) hx hb dX4_last_8 (by decide) ?_
  refine k_isub (x := s 1 0 0) (y := 1) hx hb (by omega) dX4_last_9 ?_
  refine k_iald hx hb hC hP _ (wM_chain) (j := (s 1 0 0) - 1) (by omega) (by omega) dX4_last_10 ?_
  exact k_iret hx hb hr hlk (by rfl) hP hS dX4_last_11
set_option maxHeartbeats 4000000 in
set_option maxRecDepth 100000 in
/-- updatesTo -/
theorem c_X4_updatesTo (l : Launch) {g : GG} {a : Nat → Nat} {n : Nat} {A : Nat → Prop} (hA : Ap A a 8) {s : CS} (hm : Mh n s) {p nd U : Nat} (hnd : nd < n) (hp : p < s 1 0 0) (hpe : s 0 0 p = nd) (hu : ∀ k, k < s 1 0 0 → k ≠ p → s 0 0 k ≠ nd) (hle : 0 < p → s 4 0 nd ≤ s 4 0 (s 0 0 (p - 1))) (hU : (if 0 < p ∧ s 3 0 (s 0 0 (p - 1)) ≠ 0 then s 4 0 (s 0 0 (p - 1)) - s 4 0 nd else 0) = U) : Met l yX4_updatesTo wsX4_updatesTo ({ frames := 1, cells := 0, slots := 0, locals := 23 }) (pC g [.ref (a 0), .int (nI nd)] (wM g a s)) (qI g (nI U) (wM g a s) A) 0 0 A := by
  refine k_start (cc := cX4_updatesTo) (maxL := 3) (ret := (some .int)) (by decide) rfl (Nat.le_of_ble_eq_true rfl) ?_
  intro pr en s0 m args below meth cd hx hb hml hr hlk hts hown hin hC hP ls hl
  have hS : va_S A s0.heap s0.heap [] := va_S.rf
  have hfx : CallFix pr m cd cX4_updatesTo 3 s0 args wsX4_updatesTo RX4 := ⟨hx, hb, hml, hown, hts⟩
  have hu4 : ∀ w ∈ wsX40, w.before args s0 = true := fun w h => hts w ((by decide +kernel : ∀ w ∈ wsX40, w ∈ wsX4_updatesTo) w h)
  have hl : lv_has ls 3 [(0, .ref (a 0)), (1, .int (nI nd))] := hl
  have m0 := hm.1
  have m1 := hm.2.1
  have f1 := hm.ch (p - 1) (by omega)
  have f2 := hm.nd _ f1
  have f3 := hm.nd nd (by omega)
  refine lv_aload_n hx hb dX4_updatesTo_0 rfl (lv_at hl 0 rfl) ?_
  refine lv_iload_n hx hb dX4_updatesTo_1 rfl (lv_at hl 1 rfl) ?_
  refine kV_i (r := nI p) (w2 := wM g a s) (As := [.int (nI nd)]) (b := a 0) (rest := []) (A1 := A) hfx (c_X4_placeOf l hA (s := s) (hm) (nd := nd) (p := p) (by omega) (hp) (hpe) (hu)) (cwV 1 hts gX4_updatesTo_X4_placeOf rfl rfl rfl (by decide +kernel) ⟨by decide, by decide⟩) (va_recv hC.1 hP (ci := 4) rfl (wM_obj)) hC hP hS (fun _ h => h) rfl hl.1 rfl (Nat.le_of_ble_eq_true rfl) dX4_updatesTo_2 ⟨Nat.le_of_ble_eq_true rfl, Nat.le_of_ble_eq_true rfl⟩ (fun H locs hP hS _ _ => ?_)
  refine lv_istore_n (lv' := [(2, .int (nI p)), (0, .ref (a 0)), (1, .int (nI nd))]) hx hb dX4_updatesTo_5 rfl hl (by decide) rfl (fun ls hl => ?_)
  refine lv_iload_n hx hb dX4_updatesTo_6 rfl (lv_at hl 0 rfl) ?_
  refine k_if_le (tgt := 49) hx hb dX4_updatesTo_7 (by decide) (by omega) (fun c7 => ?_) (fun c7 => ?_)
  · skip
    refine k_ic (x := 0) hx hb dX4_updatesTo_49 (by decide) ?_
    exact k_iret hx hb hr hlk (by rw [← hU]; first | rw [if_pos ⟨by omega, by omega⟩] | rw [if_neg (by omega)]) hP hS dX4_updatesTo_50
  · skip
    have f4 := hle (by omega)
    refine lv_aload_n hx hb dX4_updatesTo_10 rfl (lv_at hl 1 rfl) ?_
    refine va_get (D := g.1) (C := RX4) (T := TX4) (N := 11) (ci := 4) hx hb hu4 (fun _ h => h) hown hC.1 hP _ (wM_obj) rfl 5 (by decide) (hts (.fieldLink RX4 17 "SplicedChainModel" "open" "[Z") (by decide +kernel)) (fun _ h9 => h9) rfl dX4_updatesTo_11 ?_
    refine lv_aload_n hx hb dX4_updatesTo_14 rfl (lv_at hl 1 rfl) ?_
    refine va_get (D := g.1) (C := RX4) (T := TX4) (N := 11) (ci := 4) hx hb hu4 (fun _ h => h) hown hC.1 hP _ (wM_obj) rfl 3 (by decide) (hts (.fieldLink RX4 7 "SplicedChainModel" "chain" "[I") (by decide +kernel)) (fun _ h9 => h9) rfl dX4_updatesTo_15 ?_
    refine lv_iload_n hx hb dX4_updatesTo_18 rfl (lv_at hl 0 rfl) ?_
    refine k_ic (x := 1) hx hb dX4_updatesTo_19 (by decide) ?_
    refine k_isub (x := p) (y := 1) hx hb (by omega) dX4_updatesTo_20 ?_
    refine k_iald hx hb hC hP _ (wM_chain) (j := p - 1) (by omega) (by omega) dX4_updatesTo_21 ?_
    refine k_zald hx hb hC hP _ (wM_open) (j := s 0 0 (p - 1)) (by omega) (by omega) dX4_updatesTo_22 ?_
    refine k_if_eq (tgt := 49) hx hb dX4_updatesTo_23 (by decide) (by omega) (fun c23 => ?_) (fun c23 => ?_)
    · skip
      refine k_ic (x := 0) hx hb dX4_updatesTo_49 (by decide) ?_
      exact k_iret hx hb hr hlk (by rw [← hU]; first | rw [if_pos ⟨by omega, by omega⟩] | rw [if_neg (by omega)]) hP hS dX4_updatesTo_50
    · skip
      refine lv_aload_n hx hb dX4_updatesTo_26 rfl (lv_at hl 1 rfl) ?_
      refine va_get (D := g.1) (C := RX4) (T := TX4) (N := 11) (ci := 4) hx hb hu4 (fun _ h => h) hown hC.1 hP _ (wM_obj) rfl 6 (by decide) (hts (.fieldLink RX4 20 "SplicedChainModel" "history" "[I") (by decide +kernel)) (fun _ h9 => h9) rfl dX4_updatesTo_27 ?_
      refine lv_aload_n hx hb dX4_updatesTo_30 rfl (lv_at hl 1 rfl) ?_
      refine va_get (D := g.1) (C := RX4) (T := TX4) (N := 11) (ci := 4) hx hb hu4 (fun _ h => h) hown hC.1 hP _ (wM_obj) rfl 3 (by decide) (hts (.fieldLink RX4 7 "SplicedChainModel" "chain" "[I") (by decide +kernel)) (fun _ h9 => h9) rfl dX4_updatesTo_31 ?_
      refine lv_iload_n hx hb dX4_updatesTo_34 rfl (lv_at hl 0 rfl) ?_
      refine k_ic (x := 1) hx hb dX4_updatesTo_35 (by decide) ?_
      refine k_isub (x := p) (y := 1) hx hb (by omega) dX4_updatesTo_36 ?_
      refine k_iald hx hb hC hP _ (wM_chain) (j := p - 1) (by omega) (by omega) dX4_updatesTo_37 ?_
      refine k_iald hx hb hC hP _ (wM_history) (j := s 0 0 (p - 1)) (by omega) (by omega) dX4_updatesTo_38 ?_
      refine lv_aload_n hx hb dX4_updatesTo_39 rfl (lv_at hl 1 rfl) ?_
      refine va_get (D := g.1) (C := RX4) (T := TX4) (N := 11) (ci := 4) hx hb hu4 (fun _ h => h) hown hC.1 hP _ (wM_obj) rfl 6 (by decide) (hts (.fieldLink RX4 20 "SplicedChainModel" "history" "[I") (by decide +kernel)) (fun _ h9 => h9) rfl dX4_updatesTo_40 ?_
      refine lv_iload_n hx hb dX4_updatesTo_43 rfl (lv_at hl 2 rfl) ?_
      refine k_iald hx hb hC hP _ (wM_history) (j := nd) (by omega) (by omega) dX4_updatesTo_44 ?_
      refine k_isub (x := s 4 0 (s 0 0 (p - 1))) (y := s 4 0 nd) hx hb (by omega) dX4_updatesTo_45 ?_
      refine lv_goto (tgt := 50) hx hb dX4_updatesTo_46 (by decide) ?_
      exact k_iret hx hb hr hlk (by rw [← hU]; first | rw [if_pos ⟨by omega, by omega⟩] | rw [if_neg (by omega)]) hP hS dX4_updatesTo_50
set_option maxHeartbeats 4000000 in
set_option maxRecDepth 100000 in
/-- updatesTo: not in the chain -/
theorem c_X4_updatesTo_no (l : Launch) {g : GG} {a : Nat → Nat} {n : Nat} {A : Nat → Prop} (hA : Ap A a 8) {s : CS} (hm : Mh n s) {nd : Nat} (hnd : nd < n) (hno : ∀ k, k < s 1 0 0 → s 0 0 k ≠ nd) : Met l yX4_updatesTo wsX4_updatesTo ({ frames := 1, cells := 0, slots := 0, locals := 23 }) (pC g [.ref (a 0), .int (nI nd)] (wM g a s)) (qI g (nI 0) (wM g a s) A) 0 0 A := by
  refine k_start (cc := cX4_updatesTo) (maxL := 3) (ret := (some .int)) (by decide) rfl (Nat.le_of_ble_eq_true rfl) ?_
  intro pr en s0 m args below meth cd hx hb hml hr hlk hts hown hin hC hP ls hl
  have hS : va_S A s0.heap s0.heap [] := va_S.rf
  have hfx : CallFix pr m cd cX4_updatesTo 3 s0 args wsX4_updatesTo RX4 := ⟨hx, hb, hml, hown, hts⟩
  have hu4 : ∀ w ∈ wsX40, w.before args s0 = true := fun w h => hts w ((by decide +kernel : ∀ w ∈ wsX40, w ∈ wsX4_updatesTo) w h)
  have hl : lv_has ls 3 [(0, .ref (a 0)), (1, .int (nI nd))] := hl
  have m0 := hm.1
  have m1 := hm.2.1
  refine lv_aload_n hx hb dX4_updatesTo_0 rfl (lv_at hl 0 rfl) ?_
  refine lv_iload_n hx hb dX4_updatesTo_1 rfl (lv_at hl 1 rfl) ?_
  refine kV_i (r := -1) (w2 := wM g a s) (As := [.int (nI nd)]) (b := a 0) (rest := []) (A1 := A) hfx (c_X4_placeOf_no l hA (s := s) (hm) (nd := nd) (by omega) (hno)) (cwV 1 hts gX4_updatesTo_X4_placeOf rfl rfl rfl (by decide +kernel) ⟨by decide, by decide⟩) (va_recv hC.1 hP (ci := 4) rfl (wM_obj)) hC hP hS (fun _ h => h) rfl hl.1 rfl (Nat.le_of_ble_eq_true rfl) dX4_updatesTo_2 ⟨Nat.le_of_ble_eq_true rfl, Nat.le_of_ble_eq_true rfl⟩ (fun H locs hP hS _ _ => ?_)
  refine lv_istore_n (lv' := [(2, .int (-1)), (0, .ref (a 0)), (1, .int (nI nd))]) hx hb dX4_updatesTo_5 rfl hl (by decide) rfl (fun ls hl => ?_)
  refine lv_iload_n hx hb dX4_updatesTo_6 rfl (lv_at hl 0 rfl) ?_
  refine lv_if_le (tgt := 49) hx hb dX4_updatesTo_7 (by decide) (fun c7 => ?_) (fun c7 => ?_)
  · skip
    refine k_ic (x := 0) hx hb dX4_updatesTo_49 (by decide) ?_
    exact k_iret hx hb hr hlk (by rfl) hP hS dX4_updatesTo_50
  · exact absurd (by decide) c7
set_option maxHeartbeats 4000000 in
set_option maxRecDepth 100000 in
/-- acksTo -/
theorem c_X4_acksTo (l : Launch) {g : GG} {a : Nat → Nat} {n : Nat} {A : Nat → Prop} (hA : Ap A a 8) {s : CS} (hm : Mh n s) {p nd V : Nat} (hnd : nd < n) (hp : p < s 1 0 0) (hpe : s 0 0 p = nd) (hu : ∀ k, k < s 1 0 0 → k ≠ p → s 0 0 k ≠ nd) (hla : p + 1 < s 1 0 0 → s 5 0 nd ≤ s 5 0 (s 0 0 (p + 1))) (hV : (if p + 1 < s 1 0 0 ∧ s 3 0 nd ≠ 0 then s 5 0 (s 0 0 (p + 1)) - s 5 0 nd else 0) = V) : Met l yX4_acksTo wsX4_acksTo ({ frames := 1, cells := 0, slots := 0, locals := 23 }) (pC g [.ref (a 0), .int (nI nd)] (wM g a s)) (qI g (nI V) (wM g a s) A) 0 0 A := by
  refine k_start (cc := cX4_acksTo) (maxL := 3) (ret := (some .int)) (by decide) rfl (Nat.le_of_ble_eq_true rfl) ?_
  intro pr en s0 m args below meth cd hx hb hml hr hlk hts hown hin hC hP ls hl
  have hS : va_S A s0.heap s0.heap [] := va_S.rf
  have hfx : CallFix pr m cd cX4_acksTo 3 s0 args wsX4_acksTo RX4 := ⟨hx, hb, hml, hown, hts⟩
  have hu4 : ∀ w ∈ wsX40, w.before args s0 = true := fun w h => hts w ((by decide +kernel : ∀ w ∈ wsX40, w ∈ wsX4_acksTo) w h)
  have hl : lv_has ls 3 [(0, .ref (a 0)), (1, .int (nI nd))] := hl
  have m0 := hm.1
  have m1 := hm.2.1
  have f3 := hm.nd nd (by omega)
  refine lv_aload_n hx hb dX4_acksTo_0 rfl (lv_at hl 0 rfl) ?_
  refine lv_iload_n hx hb dX4_acksTo_1 rfl (lv_at hl 1 rfl) ?_
  refine kV_i (r := nI p) (w2 := wM g a s) (As := [.int (nI nd)]) (b := a 0) (rest := []) (A1 := A) hfx (c_X4_placeOf l hA (s := s) (hm) (nd := nd) (p := p) (by omega) (hp) (hpe) (hu)) (cwV 1 hts gX4_acksTo_X4_placeOf rfl rfl rfl (by decide +kernel) ⟨by decide, by decide⟩) (va_recv hC.1 hP (ci := 4) rfl (wM_obj)) hC hP hS (fun _ h => h) rfl hl.1 rfl (Nat.le_of_ble_eq_true rfl) dX4_acksTo_2 ⟨Nat.le_of_ble_eq_true rfl, Nat.le_of_ble_eq_true rfl⟩ (fun H locs hP hS _ _ => ?_)
  refine lv_istore_n (lv' := [(2, .int (nI p)), (0, .ref (a 0)), (1, .int (nI nd))]) hx hb dX4_acksTo_5 rfl hl (by decide) rfl (fun ls hl => ?_)
  refine lv_iload_n hx hb dX4_acksTo_6 rfl (lv_at hl 0 rfl) ?_
  refine lv_if_lt (tgt := 52) hx hb dX4_acksTo_7 (by decide) (fun c7 => ?_) (fun c7 => ?_)
  · exact absurd c7 (nI_pos (by omega))
  · skip
    refine lv_iload_n hx hb dX4_acksTo_10 rfl (lv_at hl 0 rfl) ?_
    refine lv_aload_n hx hb dX4_acksTo_11 rfl (lv_at hl 1 rfl) ?_
    refine va_get (D := g.1) (C := RX4) (T := TX4) (N := 11) (ci := 4) hx hb hu4 (fun _ h => h) hown hC.1 hP _ (wM_obj) rfl 2 (by decide) (hts (.fieldLink RX4 36 "SplicedChainModel" "size" "I") (by decide +kernel)) (fun _ h9 => h9) rfl dX4_acksTo_12 ?_
    refine k_ic (x := 1) hx hb dX4_acksTo_15 (by decide) ?_
    refine k_isub (x := s 1 0 0) (y := 1) hx hb (by omega) dX4_acksTo_16 ?_
    refine k_icmp_ge (tgt := 52) hx hb dX4_acksTo_17 (by decide) (by omega) (by omega) (fun c17 => ?_) (fun c17 => ?_)
    · skip
      refine k_ic (x := 0) hx hb dX4_acksTo_52 (by decide) ?_
      exact k_iret hx hb hr hlk (by rw [← hV]; first | rw [if_pos ⟨by omega, by omega⟩] | rw [if_neg (by omega)]) hP hS dX4_acksTo_53
    · skip
      have f4 := hla (by omega)
      have f1 := hm.ch (p + 1) (by omega)
      have f2 := hm.nd _ f1
      refine lv_aload_n hx hb dX4_acksTo_20 rfl (lv_at hl 1 rfl) ?_
      refine va_get (D := g.1) (C := RX4) (T := TX4) (N := 11) (ci := 4) hx hb hu4 (fun _ h => h) hown hC.1 hP _ (wM_obj) rfl 5 (by decide) (hts (.fieldLink RX4 17 "SplicedChainModel" "open" "[Z") (by decide +kernel)) (fun _ h9 => h9) rfl dX4_acksTo_21 ?_
      refine lv_iload_n hx hb dX4_acksTo_24 rfl (lv_at hl 2 rfl) ?_
      refine k_zald hx hb hC hP _ (wM_open) (j := nd) (by omega) (by omega) dX4_acksTo_25 ?_
      refine k_if_eq (tgt := 52) hx hb dX4_acksTo_26 (by decide) (by omega) (fun c26 => ?_) (fun c26 => ?_)
      · skip
        refine k_ic (x := 0) hx hb dX4_acksTo_52 (by decide) ?_
        exact k_iret hx hb hr hlk (by rw [← hV]; first | rw [if_pos ⟨by omega, by omega⟩] | rw [if_neg (by omega)]) hP hS dX4_acksTo_53
      · skip
        refine lv_aload_n hx hb dX4_acksTo_29 rfl (lv_at hl 1 rfl) ?_
        refine va_get (D := g.1) (C := RX4) (T := TX4) (N := 11) (ci := 4) hx hb hu4 (fun _ h => h) hown hC.1 hP _ (wM_obj) rfl 7 (by decide) (hts (.fieldLink RX4 23 "SplicedChainModel" "acked" "[I") (by decide +kernel)) (fun _ h9 => h9) rfl dX4_acksTo_30 ?_
        refine lv_aload_n hx hb dX4_acksTo_33 rfl (lv_at hl 1 rfl) ?_
        refine va_get (D := g.1) (C := RX4) (T := TX4) (N := 11) (ci := 4) hx hb hu4 (fun _ h => h) hown hC.1 hP _ (wM_obj) rfl 3 (by decide) (hts (.fieldLink RX4 7 "SplicedChainModel" "chain" "[I") (by decide +kernel)) (fun _ h9 => h9) rfl dX4_acksTo_34 ?_
        refine lv_iload_n hx hb dX4_acksTo_37 rfl (lv_at hl 0 rfl) ?_
        refine k_ic (x := 1) hx hb dX4_acksTo_38 (by decide) ?_
        refine k_iadd (x := p) (y := 1) hx hb dX4_acksTo_39 ?_
        refine k_iald hx hb hC hP _ (wM_chain) (j := p + 1) (by omega) (by omega) dX4_acksTo_40 ?_
        refine k_iald hx hb hC hP _ (wM_acked) (j := s 0 0 (p + 1)) (by omega) (by omega) dX4_acksTo_41 ?_
        refine lv_aload_n hx hb dX4_acksTo_42 rfl (lv_at hl 1 rfl) ?_
        refine va_get (D := g.1) (C := RX4) (T := TX4) (N := 11) (ci := 4) hx hb hu4 (fun _ h => h) hown hC.1 hP _ (wM_obj) rfl 7 (by decide) (hts (.fieldLink RX4 23 "SplicedChainModel" "acked" "[I") (by decide +kernel)) (fun _ h9 => h9) rfl dX4_acksTo_43 ?_
        refine lv_iload_n hx hb dX4_acksTo_46 rfl (lv_at hl 2 rfl) ?_
        refine k_iald hx hb hC hP _ (wM_acked) (j := nd) (by omega) (by omega) dX4_acksTo_47 ?_
        refine k_isub (x := s 5 0 (s 0 0 (p + 1))) (y := s 5 0 nd) hx hb (by omega) dX4_acksTo_48 ?_
        refine lv_goto (tgt := 53) hx hb dX4_acksTo_49 (by decide) ?_
        exact k_iret hx hb hr hlk (by rw [← hV]; first | rw [if_pos ⟨by omega, by omega⟩] | rw [if_neg (by omega)]) hP hS dX4_acksTo_53
set_option maxHeartbeats 4000000 in
set_option maxRecDepth 100000 in
/-- acksTo: not in the chain -/
theorem c_X4_acksTo_no (l : Launch) {g : GG} {a : Nat → Nat} {n : Nat} {A : Nat → Prop} (hA : Ap A a 8) {s : CS} (hm : Mh n s) {nd : Nat} (hnd : nd < n) (hno : ∀ k, k < s 1 0 0 → s 0 0 k ≠ nd) : Met l yX4_acksTo wsX4_acksTo ({ frames := 1, cells := 0, slots := 0, locals := 23 }) (pC g [.ref (a 0), .int (nI nd)] (wM g a s)) (qI g (nI 0) (wM g a s) A) 0 0 A := by
  refine k_start (cc := cX4_acksTo) (maxL := 3) (ret := (some .int)) (by decide) rfl (Nat.le_of_ble_eq_true rfl) ?_
  intro pr en s0 m args below meth cd hx hb hml hr hlk hts hown hin hC hP ls hl
  have hS : va_S A s0.heap s0.heap [] := va_S.rf
  have hfx : CallFix pr m cd cX4_acksTo 3 s0 args wsX4_acksTo RX4 := ⟨hx, hb, hml, hown, hts⟩
  have hu4 : ∀ w ∈ wsX40, w.before args s0 = true := fun w h => hts w ((by decide +kernel : ∀ w ∈ wsX40, w ∈ wsX4_acksTo) w h)
  have hl : lv_has ls 3 [(0, .ref (a 0)), (1, .int (nI nd))] := hl
  have m0 := hm.1
  have m1 := hm.2.1
  refine lv_aload_n hx hb dX4_acksTo_0 rfl (lv_at hl 0 rfl) ?_
  refine lv_iload_n hx hb dX4_acksTo_1 rfl (lv_at hl 1 rfl) ?_
  refine kV_i (r := -1) (w2 := wM g a s) (As := [.int (nI nd)]) (b := a 0) (rest := []) (A1 := A) hfx (c_X4_placeOf_no l hA (s := s) (hm) (nd := nd) (by omega) (hno)) (cwV 1 hts gX4_acksTo_X4_placeOf rfl rfl rfl (by decide +kernel) ⟨by decide, by decide⟩) (va_recv hC.1 hP (ci := 4) rfl (wM_obj)) hC hP hS (fun _ h => h) rfl hl.1 rfl (Nat.le_of_ble_eq_true rfl) dX4_acksTo_2 ⟨Nat.le_of_ble_eq_true rfl, Nat.le_of_ble_eq_true rfl⟩ (fun H locs hP hS _ _ => ?_)
  refine lv_istore_n (lv' := [(2, .int (-1)), (0, .ref (a 0)), (1, .int (nI nd))]) hx hb dX4_acksTo_5 rfl hl (by decide) rfl (fun ls hl => ?_)
  refine lv_iload_n hx hb dX4_acksTo_6 rfl (lv_at hl 0 rfl) ?_
  refine lv_if_lt (tgt := 52) hx hb dX4_acksTo_7 (by decide) (fun c7 => ?_) (fun c7 => ?_)
  · skip
    refine k_ic (x := 0) hx hb dX4_acksTo_52 (by decide) ?_
    exact k_iret hx hb hr hlk (by rfl) hP hS dX4_acksTo_53
  · exact absurd (by decide) c7
set_option maxHeartbeats 4000000 in
set_option maxRecDepth 100000 in
/-- apply -/
theorem c_X4_apply (l : Launch) {g : GG} {a : Nat → Nat} {n : Nat} {A : Nat → Prop} (hA : Ap A a 8) {s : CS} (hm : Mh n s) {nd k v : Nat} (hnd : nd < 6) (hh : s 4 0 nd < 40) : Met l yX4_apply wsX4_apply ({ frames := 1, cells := 0, slots := 0, locals := 20 }) (pC g [.ref (a 0), .int (nI nd), .int (nI k), .int (nI v)] (wM g a s)) (qV g (wM g a (apM s nd k v)) A) 0 0 A := by
  refine k_start (cc := cX4_apply) (maxL := 4) (ret := none) (by decide) rfl (Nat.le_of_ble_eq_true rfl) ?_
  intro pr en s0 m args below meth cd hx hb hml hr hlk hts hown hin hC hP ls hl
  have hS : va_S A s0.heap s0.heap [] := va_S.rf
  have hfx : CallFix pr m cd cX4_apply 4 s0 args wsX4_apply RX4 := ⟨hx, hb, hml, hown, hts⟩
  have hu4 : ∀ w ∈ wsX40, w.before args s0 = true := fun w h => hts w ((by decide +kernel : ∀ w ∈ wsX40, w ∈ wsX4_apply) w h)
  have hl : lv_has ls 4 [(0, .ref (a 0)), (1, .int (nI nd)), (2, .int (nI k)), (3, .int (nI v))] := hl
  have m0 := hm.1
  have m1 := hm.2.1
  have f1 := hm.ch (s 1 0 0 - 1) (by omega)
  refine lv_aload_n hx hb dX4_apply_0 rfl (lv_at hl 0 rfl) ?_
  refine va_get (D := g.1) (C := RX4) (T := TX4) (N := 11) (ci := 4) hx hb hu4 (fun _ h => h) hown hC.1 hP _ (wM_obj) rfl 6 (by decide) (hts (.fieldLink RX4 20 "SplicedChainModel" "history" "[I") (by decide +kernel)) (fun _ h9 => h9) rfl dX4_apply_1 ?_
  refine lv_iload_n hx hb dX4_apply_4 rfl (lv_at hl 1 rfl) ?_
  refine lv_dup2_11 hx hb dX4_apply_5 rfl rfl ?_
  refine k_iald hx hb hC hP _ (wM_history) (j := nd) (by omega) (by omega) dX4_apply_6 ?_
  refine k_ic (x := 1) hx hb dX4_apply_7 (by decide) ?_
  refine k_iadd (x := s 4 0 nd) (y := 1) hx hb dX4_apply_8 ?_
  refine k_iast hx hb hC hP hA.M hS _ (wM_history) (j := nd) (by omega) (by omega) dX4_apply_9 wpM_history (fun H locs hP hS => ?_)
  refine lv_aload_n hx hb dX4_apply_10 rfl (lv_at hl 0 rfl) ?_
  refine va_get (D := g.1) (C := RX4) (T := TX4) (N := 11) (ci := 4) hx hb hu4 (fun _ h => h) hown hC.1 hP _ (wM_obj) rfl 8 (by decide) (hts (.fieldLink RX4 26 "SplicedChainModel" "keys" "[I") (by decide +kernel)) (fun _ h9 => h9) rfl dX4_apply_11 ?_
  refine k_bi (x := 41) hx hb dX4_apply_14 (by decide) ?_
  refine lv_iload_n hx hb dX4_apply_16 rfl (lv_at hl 1 rfl) ?_
  refine k_imul (x := 41) (y := nd) hx hb dX4_apply_17 ?_
  refine lv_aload_n hx hb dX4_apply_18 rfl (lv_at hl 0 rfl) ?_
  refine va_get (D := g.1) (C := RX4) (T := TX4) (N := 11) (ci := 4) hx hb hu4 (fun _ h => h) hown hC.1 hP _ (wM_obj) rfl 6 (by decide) (hts (.fieldLink RX4 20 "SplicedChainModel" "history" "[I") (by decide +kernel)) (fun _ h9 => h9) rfl dX4_apply_19 ?_
  refine lv_iload_n hx hb dX4_apply_22 rfl (lv_at hl 1 rfl) ?_
  refine k_iald hx hb hC hP _ (wM_history) (j := nd) (by omega) (by omega) dX4_apply_23 ?_
  refine k_as (x := (s 4 0 nd) + 1) (by simp [w3]) ?_
  refine k_iadd (x := 41 * nd) (y := (s 4 0 nd) + 1) hx hb dX4_apply_24 ?_
  refine lv_iload_n hx hb dX4_apply_25 rfl (lv_at hl 2 rfl) ?_
  refine k_iast hx hb hC hP hA.M hS _ (wM_keys) (j := (41 * nd) + ((s 4 0 nd) + 1)) (by omega) (by omega) dX4_apply_26 wpM_keys (fun H locs hP hS => ?_)
  refine lv_aload_n hx hb dX4_apply_27 rfl (lv_at hl 0 rfl) ?_
  refine va_get (D := g.1) (C := RX4) (T := TX4) (N := 11) (ci := 4) hx hb hu4 (fun _ h => h) hown hC.1 hP _ (wM_obj) rfl 9 (by decide) (hts (.fieldLink RX4 29 "SplicedChainModel" "values" "[I") (by decide +kernel)) (fun _ h9 => h9) rfl dX4_apply_28 ?_
  refine k_bi (x := 41) hx hb dX4_apply_31 (by decide) ?_
  refine lv_iload_n hx hb dX4_apply_33 rfl (lv_at hl 1 rfl) ?_
  refine k_imul (x := 41) (y := nd) hx hb dX4_apply_34 ?_
  refine lv_aload_n hx hb dX4_apply_35 rfl (lv_at hl 0 rfl) ?_
  refine va_get (D := g.1) (C := RX4) (T := TX4) (N := 11) (ci := 4) hx hb hu4 (fun _ h => h) hown hC.1 hP _ (wM_obj) rfl 6 (by decide) (hts (.fieldLink RX4 20 "SplicedChainModel" "history" "[I") (by decide +kernel)) (fun _ h9 => h9) rfl dX4_apply_36 ?_
  refine lv_iload_n hx hb dX4_apply_39 rfl (lv_at hl 1 rfl) ?_
  refine k_iald hx hb hC hP _ (wM_history) (j := nd) (by omega) (by omega) dX4_apply_40 ?_
  refine k_as (x := (s 4 0 nd) + 1) (by simp [w3]) ?_
  refine k_iadd (x := 41 * nd) (y := (s 4 0 nd) + 1) hx hb dX4_apply_41 ?_
  refine lv_iload_n hx hb dX4_apply_42 rfl (lv_at hl 3 rfl) ?_
  refine k_iast hx hb hC hP hA.M hS _ (wM_values) (j := (41 * nd) + ((s 4 0 nd) + 1)) (by omega) (by omega) dX4_apply_43 wpM_values (fun H locs hP hS => ?_)
  refine lv_iload_n hx hb dX4_apply_44 rfl (lv_at hl 1 rfl) ?_
  refine lv_aload_n hx hb dX4_apply_45 rfl (lv_at hl 0 rfl) ?_
  refine kV_i (r := nI (s 0 0 (s 1 0 0 - 1))) (w2 := wM g a (w3 (w3 (w3 s 4 0 nd ((s 4 0 nd) + 1)) 6 0 ((41 * nd) + ((s 4 0 nd) + 1)) k) 7 0 ((41 * nd) + ((s 4 0 nd) + 1)) v)) (As := []) (b := a 0) (rest := [.int (nI nd)]) (A1 := A) hfx (c_X4_last l (n := n) hA (s := (w3 (w3 (w3 s 4 0 nd ((s 4 0 nd) + 1)) 6 0 ((41 * nd) + ((s 4 0 nd) + 1)) k) 7 0 ((41 * nd) + ((s 4 0 nd) + 1)) v)) (L := s 1 0 0) (x := s 0 0 (s 1 0 0 - 1)) (by simp [w3]) (by simp [w3]) (by omega)) (cwV 0 hts gX4_apply_X4_last rfl rfl rfl (by decide +kernel) ⟨by decide, by decide⟩) (va_recv hC.1 hP (ci := 4) rfl (wM_obj)) hC hP hS (fun _ h => h) rfl hl.1 rfl (Nat.le_of_ble_eq_true rfl) dX4_apply_46 ⟨Nat.le_of_ble_eq_true rfl, Nat.le_of_ble_eq_true rfl⟩ (fun H locs hP hS _ _ => ?_)
  refine k_icmp_ne (tgt := 74) hx hb dX4_apply_49 (by decide) (by omega) (by omega) (fun c49 => ?_) (fun c49 => ?_)
  · skip
    exact k_vret hx hb hr hlk (P_eq (congrArg (wM g a) (by unfold apM; first | rw [if_pos c49]; rfl | rw [if_neg c49]; rfl)) hP) hS dX4_apply_74
  · skip
    refine lv_aload_n hx hb dX4_apply_52 rfl (lv_at hl 0 rfl) ?_
    refine va_get (D := g.1) (C := RX4) (T := TX4) (N := 11) (ci := 4) hx hb hu4 (fun _ h => h) hown hC.1 hP _ (wM_obj) rfl 7 (by decide) (hts (.fieldLink RX4 23 "SplicedChainModel" "acked" "[I") (by decide +kernel)) (fun _ h9 => h9) rfl dX4_apply_53 ?_
    refine lv_iload_n hx hb dX4_apply_56 rfl (lv_at hl 1 rfl) ?_
    refine lv_aload_n hx hb dX4_apply_57 rfl (lv_at hl 0 rfl) ?_
    refine va_get (D := g.1) (C := RX4) (T := TX4) (N := 11) (ci := 4) hx hb hu4 (fun _ h => h) hown hC.1 hP _ (wM_obj) rfl 6 (by decide) (hts (.fieldLink RX4 20 "SplicedChainModel" "history" "[I") (by decide +kernel)) (fun _ h9 => h9) rfl dX4_apply_58 ?_
    refine lv_iload_n hx hb dX4_apply_61 rfl (lv_at hl 1 rfl) ?_
    refine k_iald hx hb hC hP _ (wM_history) (j := nd) (by omega) (by omega) dX4_apply_62 ?_
    refine k_as (x := (s 4 0 nd) + 1) (by simp [w3]) ?_
    refine k_iast hx hb hC hP hA.M hS _ (wM_acked) (j := nd) (by omega) (by omega) dX4_apply_63 wpM_acked (fun H locs hP hS => ?_)
    refine lv_aload_n hx hb dX4_apply_64 rfl (lv_at hl 0 rfl) ?_
    refine lv_aload_n hx hb dX4_apply_65 rfl (lv_at hl 0 rfl) ?_
    refine va_get (D := g.1) (C := RX4) (T := TX4) (N := 11) (ci := 4) hx hb hu4 (fun _ h => h) hown hC.1 hP _ (wM_obj) rfl 6 (by decide) (hts (.fieldLink RX4 20 "SplicedChainModel" "history" "[I") (by decide +kernel)) (fun _ h9 => h9) rfl dX4_apply_66 ?_
    refine lv_iload_n hx hb dX4_apply_69 rfl (lv_at hl 1 rfl) ?_
    refine k_iald hx hb hC hP _ (wM_history) (j := nd) (by omega) (by omega) dX4_apply_70 ?_
    refine k_as (x := (s 4 0 nd) + 1) (by simp [w3]) ?_
    refine va_put (D := g.1) (v := .int (nI ((s 4 0 nd) + 1))) (ty := .int) (C := RX4) (T := TX4) (N := 11) (ci := 4) hx hb hu4 (fun _ h => h) tyX4 tyX4_ok nmX4 hown hC.1 hP hA.M hS _ (wM_obj) rfl 10 (by decide) (hts (.fieldLink RX4 50 "SplicedChainModel" "replies" "I") (by decide +kernel)) (fun _ h9 => h9) rfl (by decide +kernel) rfl rfl (Nat.le_of_ble_eq_true rfl) dX4_apply_71 (fun H locs hP _ hS => ?_)
    have hP : va_P g.1 vwCl (wM g a (w3 (w3 (w3 (w3 (w3 s 4 0 nd ((s 4 0 nd) + 1)) 6 0 ((41 * nd) + ((s 4 0 nd) + 1)) k) 7 0 ((41 * nd) + ((s 4 0 nd) + 1)) v) 5 0 nd ((s 4 0 nd) + 1)) 8 0 0 ((s 4 0 nd) + 1))) H := P_eq wpM_replies hP
    exact k_vret hx hb hr hlk (P_eq (congrArg (wM g a) (by unfold apM; first | rw [if_pos c49]; rfl | rw [if_neg c49]; rfl)) hP) hS dX4_apply_74
set_option maxHeartbeats 4000000 in
set_option maxRecDepth 100000 in
/-- valueOf -/
theorem c_X4_valueOf (l : Launch) {g : GG} {a : Nat → Nat} {n : Nat} {A : Nat → Prop} (hA : Ap A a 8) {s : CS} (hm : Mh n s) {nd k : Nat} (hnd : nd < 6) (hk : k < 8) : Met l yX4_valueOf wsX4_valueOf ({ frames := 0, cells := 0, slots := 0, locals := 0 }) (pC g [.ref (a 0), .int (nI nd), .int (nI k)] (wM g a s)) (qI g (nI (valF s nd k (s 4 0 nd))) (wM g a s) A) 0 0 A := by
  refine k_start (cc := cX4_valueOf) (maxL := 5) (ret := (some .int)) (by decide) rfl (Nat.le_of_ble_eq_true rfl) ?_
  intro pr en s0 m args below meth cd hx hb hml hr hlk hts hown hin hC hP ls hl
  have hS : va_S A s0.heap s0.heap [] := va_S.rf
  have hfx : CallFix pr m cd cX4_valueOf 5 s0 args wsX4_valueOf RX4 := ⟨hx, hb, hml, hown, hts⟩
  have hu4 : ∀ w ∈ wsX40, w.before args s0 = true := fun w h => hts w ((by decide +kernel : ∀ w ∈ wsX40, w ∈ wsX4_valueOf) w h)
  have hl : lv_has ls 5 [(0, .ref (a 0)), (1, .int (nI nd)), (2, .int (nI k))] := hl
  have m0 := hm.1
  have m1 := hm.2.1
  have f1 := hm.nd nd (by omega)
  have loop : ∀ (d u : Nat), s 4 0 nd + 1 ≤ u + d → u ≤ s 4 0 nd → ∀ ls : Array Slot, lv_has ls 5 [(4, .int (nI (u + 1))), (3, .int (nI (valF s nd k u))), (0, .ref (a 0)), (1, .int (nI nd)), (2, .int (nI k))] → W pr l en ({ frames := 0, cells := 0, slots := 0, locals := 0 }) s0 m args below meth cd s0.heap [] 0 0 (MQ below (qI g (nI (valF s nd k (s 4 0 nd))) (wM g a s) A) args s0 0 0 A) (F0 m 5 ls []) := by
    intro d
    induction d with
    | zero => intro u h1 h2; exact absurd h1 (by omega)
    | succ d ih =>
      intro u h1 h2 ls hl
      refine lv_iload hx hb dX4_valueOf_5 (lv_at hl 0 rfl) ?_
      refine lv_aload_n hx hb dX4_valueOf_7 rfl (lv_at hl 2 rfl) ?_
      refine va_get (D := g.1) (C := RX4) (T := TX4) (N := 11) (ci := 4) hx hb hu4 (fun _ h => h) hown hC.1 hP _ (wM_obj) rfl 6 (by decide) (hts (.fieldLink RX4 20 "SplicedChainModel" "history" "[I") (by decide +kernel)) (fun _ h9 => h9) rfl dX4_valueOf_8 ?_
      refine lv_iload_n hx hb dX4_valueOf_11 rfl (lv_at hl 3 rfl) ?_
      refine k_iald hx hb hC hP _ (wM_history) (j := nd) (by omega) (by omega) dX4_valueOf_12 ?_
      refine k_icmp_gt (tgt := 55) hx hb dX4_valueOf_13 (by decide) (by omega) (by omega) (fun c13 => ?_) (fun c13 => ?_)
      · skip
        refine lv_iload_n hx hb dX4_valueOf_55 rfl (lv_at hl 1 rfl) ?_
        exact k_iret hx hb hr hlk (by rw [show u = s 4 0 nd by omega]) hP hS dX4_valueOf_56
      · skip
        have f2 := hm.key (41 * nd + (u + 1))
        refine lv_aload_n hx hb dX4_valueOf_16 rfl (lv_at hl 2 rfl) ?_
        refine va_get (D := g.1) (C := RX4) (T := TX4) (N := 11) (ci := 4) hx hb hu4 (fun _ h => h) hown hC.1 hP _ (wM_obj) rfl 8 (by decide) (hts (.fieldLink RX4 26 "SplicedChainModel" "keys" "[I") (by decide +kernel)) (fun _ h9 => h9) rfl dX4_valueOf_17 ?_
        refine k_bi (x := 41) hx hb dX4_valueOf_20 (by decide) ?_
        refine lv_iload_n hx hb dX4_valueOf_22 rfl (lv_at hl 3 rfl) ?_
        refine k_imul (x := 41) (y := nd) hx hb dX4_valueOf_23 ?_
        refine lv_iload hx hb dX4_valueOf_24 (lv_at hl 0 rfl) ?_
        refine k_iadd (x := 41 * nd) (y := u + 1) hx hb dX4_valueOf_26 ?_
        refine k_iald hx hb hC hP _ (wM_keys) (j := (41 * nd) + (u + 1)) (by omega) (by omega) dX4_valueOf_27 ?_
        refine lv_iload_n hx hb dX4_valueOf_28 rfl (lv_at hl 4 rfl) ?_
        refine k_icmp_ne (tgt := 47) hx hb dX4_valueOf_29 (by decide) (by omega) (by omega) (fun c29 => ?_) (fun c29 => ?_)
        · skip
          refine lv_iload_n hx hb dX4_valueOf_47 rfl (lv_at hl 1 rfl) ?_
          refine lv_istore_n (lv' := [(3, .int (nI (valF s nd k u))), (4, .int (nI (u + 1))), (0, .ref (a 0)), (1, .int (nI nd)), (2, .int (nI k))]) hx hb dX4_valueOf_48 rfl hl (by decide) rfl (fun ls hl => ?_)
          refine lv_iinc (v := nI (u + 1 + 1)) (lv' := [(4, .int (nI (u + 1 + 1))), (3, .int (nI (valF s nd k u))), (0, .ref (a 0)), (1, .int (nI nd)), (2, .int (nI k))]) hx hb dX4_valueOf_49 hl (k := 1) rfl (nI_add _ _) (by decide) rfl (fun ls hl => ?_)
          refine lv_goto (tgt := 5) hx hb dX4_valueOf_52 (by decide) ?_
          exact ih (u + 1) (by omega) (by omega) ls (by rw [show valF s nd k (u + 1) = valF s nd k u by simp [valF, c29]]; exact lv_sub hl [0, 1, 2, 3, 4] rfl)
        · skip
          refine lv_aload_n hx hb dX4_valueOf_32 rfl (lv_at hl 2 rfl) ?_
          refine va_get (D := g.1) (C := RX4) (T := TX4) (N := 11) (ci := 4) hx hb hu4 (fun _ h => h) hown hC.1 hP _ (wM_obj) rfl 9 (by decide) (hts (.fieldLink RX4 29 "SplicedChainModel" "values" "[I") (by decide +kernel)) (fun _ h9 => h9) rfl dX4_valueOf_33 ?_
          refine k_bi (x := 41) hx hb dX4_valueOf_36 (by decide) ?_
          refine lv_iload_n hx hb dX4_valueOf_38 rfl (lv_at hl 3 rfl) ?_
          refine k_imul (x := 41) (y := nd) hx hb dX4_valueOf_39 ?_
          refine lv_iload hx hb dX4_valueOf_40 (lv_at hl 0 rfl) ?_
          refine k_iadd (x := 41 * nd) (y := u + 1) hx hb dX4_valueOf_42 ?_
          refine k_iald hx hb hC hP _ (wM_values) (j := (41 * nd) + (u + 1)) (by omega) (by omega) dX4_valueOf_43 ?_
          refine lv_goto (tgt := 48) hx hb dX4_valueOf_44 (by decide) ?_
          refine lv_istore_n (lv' := [(3, .int (nI (s 7 0 ((41 * nd) + (u + 1))))), (4, .int (nI (u + 1))), (0, .ref (a 0)), (1, .int (nI nd)), (2, .int (nI k))]) hx hb dX4_valueOf_48 rfl hl (by decide) rfl (fun ls hl => ?_)
          refine lv_iinc (v := nI (u + 1 + 1)) (lv' := [(4, .int (nI (u + 1 + 1))), (3, .int (nI (s 7 0 ((41 * nd) + (u + 1))))), (0, .ref (a 0)), (1, .int (nI nd)), (2, .int (nI k))]) hx hb dX4_valueOf_49 hl (k := 1) rfl (nI_add _ _) (by decide) rfl (fun ls hl => ?_)
          refine lv_goto (tgt := 5) hx hb dX4_valueOf_52 (by decide) ?_
          exact ih (u + 1) (by omega) (by omega) ls (by rw [show valF s nd k (u + 1) = s 7 0 ((41 * nd) + (u + 1)) by simp [valF, c29]]; exact lv_sub hl [0, 1, 2, 3, 4] rfl)
  refine k_ic (x := 0) hx hb dX4_valueOf_0 (by decide) ?_
  refine lv_istore_n (lv' := [(3, .int (nI 0)), (0, .ref (a 0)), (1, .int (nI nd)), (2, .int (nI k))]) hx hb dX4_valueOf_1 rfl hl (by decide) rfl (fun ls hl => ?_)
  refine k_ic (x := 1) hx hb dX4_valueOf_2 (by decide) ?_
  refine lv_istore (lv' := [(4, .int (nI 1)), (3, .int (nI 0)), (0, .ref (a 0)), (1, .int (nI nd)), (2, .int (nI k))]) hx hb dX4_valueOf_3 hl (by decide) rfl (fun ls hl => ?_)
  exact loop (s 4 0 nd + 1) 0 (by omega) (by omega) ls (lv_sub hl [0, 1, 2, 3, 4] rfl)
