/-! THE CLASS'S STATE AND WORLD. s c i k: c = 0 chain[k]; 1 chainLength; 2 keyOfUpdate[k]; 3 valueOfUpdate[k]; 4 replies; 5 history, 6 acknowledged, 7 failed, 8 open of node i; 9 first, 10 size, 11 numbers[k] of queue i (2 * node + 0: updates, + 1: acknowledgements); 12 values[k] of node i. a j: the address of the world's cell j. -/
abbrev CS : Type := Nat → Nat → Nat → Nat
abbrev GG : Type := va_G × (ClassId × ClassId × ClassId × ClassId)
abbrev gI (g : GG) : ClassId := g.2.1
abbrev gZ (g : GG) : ClassId := g.2.2.1
abbrev gN (g : GG) : ClassId := g.2.2.2.1
abbrev gJ (g : GG) : ClassId := g.2.2.2.2
abbrev gT (g : GG) : List (ClassId × FieldType) := [(gI g, .int), (gZ g, .boolean), (gN g, .object RX1), (gJ g, .long)]
def w3 (s : CS) (c i k v : Nat) : CS := fun c' i' k' => if c' = c ∧ i' = i ∧ k' = k then v else s c' i' k'
theorem w3_eq {s : CS} {c i k v : Nat} : w3 s c i k v c i k = v := by simp [w3]
theorem w3_c {s : CS} {c i k v c' i' k' : Nat} (h : c' ≠ c) : w3 s c i k v c' i' k' = s c' i' k' := by simp [w3, h]
theorem w3_i {s : CS} {c i k v c' i' k' : Nat} (h : i' ≠ i) : w3 s c i k v c' i' k' = s c' i' k' := by simp [w3, h]
theorem w3_k {s : CS} {c i k v c' i' k' : Nat} (h : k' ≠ k) : w3 s c i k v c' i' k' = s c' i' k' := by simp [w3, h]
def bE (g : GG) (a : Nat → Nat) (n : Nat) (s : CS) (j : Nat) : va_E := match j with
  | 0 => .inr (3, [.ref (a 3), .ref (a 4), .int (nI (s 1 0 0)), .ref (a 1), .ref (a 2), .int (nI (s 4 0 0))])
  | 1 => .inl (gI g, 41, .inl (fun k => nI (s 2 0 k)))
  | 2 => .inl (gI g, 41, .inl (fun k => nI (s 3 0 k)))
  | 3 => .inl (gN g, n, .inr (.inr (.inr (.inr (fun k => if k < n then some (a (7 * k + 5)) else none)))))
  | _ => .inl (gI g, n, .inl (fun k => nI (s 0 0 k)))
def nE (g : GG) (a : Nat → Nat) (s : CS) (i r : Nat) : va_E := match r with
  | 0 => .inr (1, [.ref (a (7 * i + 6)), .ref (a (7 * i + 7)), .int (nI (s 5 i 0)), .int (nI (s 6 i 0)), .int (nI (s 7 i 0))])
  | 1 => .inl (gI g, 8, .inl (fun k => nI (s 12 i k)))
  | 2 => .inr (0, [.ref (a (7 * i + 8)), .ref (a (7 * i + 10)), .int (nI (s 8 i 0))])
  | 3 => .inr (2, [.ref (a (7 * i + 9)), .int (nI (s 9 (2 * i) 0)), .int (nI (s 10 (2 * i) 0))])
  | 4 => .inl (gI g, 40, .inl (fun k => nI (s 11 (2 * i) k)))
  | 5 => .inr (2, [.ref (a (7 * i + 11)), .int (nI (s 9 (2 * i + 1) 0)), .int (nI (s 10 (2 * i + 1) 0))])
  | _ => .inl (gI g, 40, .inl (fun k => nI (s 11 (2 * i + 1) k)))
def cE (g : GG) (a : Nat → Nat) (n : Nat) (s : CS) (j : Nat) : va_E := if j < 5 then bE g a n s j else nE g a s ((j - 5) / 7) ((j - 5) % 7)
def wC (g : GG) (a : Nat → Nat) (n : Nat) (s : CS) : va_W := (List.range (5 + 7 * n)).map (fun j => (a j, cE g a n s j))
theorem wC_at {g : GG} {a : Nat → Nat} {n : Nat} {s : CS} {j : Nat} (h : j < 5 + 7 * n) : (wC g a n s)[j]? = some (a j, cE g a n s j) := by
  simp [wC, h]
theorem wC_b {g : GG} {a : Nat → Nat} {n : Nat} {s : CS} {j : Nat} (h : j < 5) : (wC g a n s)[j]? = some (a j, bE g a n s j) := by
  rw [wC_at (by omega)]; simp [cE, h]
theorem cE_n {g : GG} {a : Nat → Nat} {n : Nat} {s : CS} {i r : Nat} (hr : r < 7) : cE g a n s (7 * i + (5 + r)) = nE g a s i r := by
  have h1 : ¬ (7 * i + (5 + r) < 5) := by omega
  have h2 : (7 * i + (5 + r) - 5) / 7 = i := by omega
  have h3 : (7 * i + (5 + r) - 5) % 7 = r := by omega
  simp [cE, h1, h2, h3]
theorem wC_n {g : GG} {a : Nat → Nat} {n : Nat} {s : CS} {i : Nat} (r : Nat) (hi : i < n) (hr : r < 7) : (wC g a n s)[7 * i + (5 + r)]? = some (a (7 * i + (5 + r)), nE g a s i r) := by
  rw [wC_at (by omega), cE_n hr]
theorem wC_node {g : GG} {a : Nat → Nat} {n : Nat} {s : CS} {i : Nat} (hi : i < n) : (wC g a n s)[7 * i + 5]? = some (a (7 * i + 5), .inr (1, [.ref (a (7 * i + 6)), .ref (a (7 * i + 7)), .int (nI (s 5 i 0)), .int (nI (s 6 i 0)), .int (nI (s 7 i 0))])) := wC_n 0 hi (by omega)
theorem wC_vals {g : GG} {a : Nat → Nat} {n : Nat} {s : CS} {i : Nat} (hi : i < n) : (wC g a n s)[7 * i + 6]? = some (a (7 * i + 6), .inl (gI g, 8, .inl (fun k => nI (s 12 i k)))) := wC_n 1 hi (by omega)
theorem wC_link {g : GG} {a : Nat → Nat} {n : Nat} {s : CS} {i : Nat} (hi : i < n) : (wC g a n s)[7 * i + 7]? = some (a (7 * i + 7), .inr (0, [.ref (a (7 * i + 8)), .ref (a (7 * i + 10)), .int (nI (s 8 i 0))])) := wC_n 2 hi (by omega)
theorem wC_q {g : GG} {a : Nat → Nat} {n : Nat} {s : CS} {i w : Nat} (hi : i < n) (hw : w < 2) : (wC g a n s)[7 * i + 8 + 2 * w]? = some (a (7 * i + 8 + 2 * w), .inr (2, [.ref (a (7 * i + 9 + 2 * w)), .int (nI (s 9 (2 * i + w) 0)), .int (nI (s 10 (2 * i + w) 0))])) := by
  rcases (show w = 0 ∨ w = 1 by omega) with rfl | rfl
  · exact wC_n 3 hi (by omega)
  · exact wC_n 5 hi (by omega)
theorem wC_row {g : GG} {a : Nat → Nat} {n : Nat} {s : CS} {i w : Nat} (hi : i < n) (hw : w < 2) : (wC g a n s)[7 * i + 9 + 2 * w]? = some (a (7 * i + 9 + 2 * w), .inl (gI g, 40, .inl (fun k => nI (s 11 (2 * i + w) k)))) := by
  rcases (show w = 0 ∨ w = 1 by omega) with rfl | rfl
  · exact wC_n 4 hi (by omega)
  · exact wC_n 6 hi (by omega)
theorem wC_obj {g : GG} {a : Nat → Nat} {n : Nat} {s : CS} : (wC g a n s)[0]? = some (a 0, .inr (3, [.ref (a 3), .ref (a 4), .int (nI (s 1 0 0)), .ref (a 1), .ref (a 2), .int (nI (s 4 0 0))])) := wC_b (by omega)
theorem wC_keys {g : GG} {a : Nat → Nat} {n : Nat} {s : CS} : (wC g a n s)[1]? = some (a 1, .inl (gI g, 41, .inl (fun k => nI (s 2 0 k)))) := wC_b (by omega)
theorem wC_vs {g : GG} {a : Nat → Nat} {n : Nat} {s : CS} : (wC g a n s)[2]? = some (a 2, .inl (gI g, 41, .inl (fun k => nI (s 3 0 k)))) := wC_b (by omega)
theorem wC_nodes {g : GG} {a : Nat → Nat} {n : Nat} {s : CS} : (wC g a n s)[3]? = some (a 3, .inl (gN g, n, .inr (.inr (.inr (.inr (fun k => if k < n then some (a (7 * k + 5)) else none)))))) := wC_b (by omega)
theorem wC_chain {g : GG} {a : Nat → Nat} {n : Nat} {s : CS} : (wC g a n s)[4]? = some (a 4, .inl (gI g, n, .inl (fun k => nI (s 0 0 k)))) := wC_b (by omega)
/-- one cell set: the world of another state -/
theorem wC_set {g : GG} {a : Nat → Nat} {n : Nat} {s s' : CS} {j : Nat} {e : va_E} (hs : cE g a n s' j = e) (ho : ∀ j', j' ≠ j → cE g a n s' j' = cE g a n s j') : (wC g a n s).set j (a j, e) = wC g a n s' := by
  apply List.ext_getElem?
  intro k
  rw [List.getElem?_set]
  by_cases hk : j = k
  · subst hk
    by_cases hj : j < 5 + 7 * n
    · simp [wC, hj, hs]
    · simp [wC, hj]
  · simp only [hk, if_false]
    by_cases hj : k < 5 + 7 * n
    · simp [wC, hj, ho k (Ne.symm hk)]
    · simp [wC, hj]
theorem cE_other {g : GG} {a : Nat → Nat} {n : Nat} {s s' : CS} {j : Nat} (hb : ∀ j', j' < 5 → j' ≠ j → bE g a n s' j' = bE g a n s j') (hn : ∀ i r, r < 7 → 7 * i + (5 + r) ≠ j → nE g a s' i r = nE g a s i r) : ∀ j', j' ≠ j → cE g a n s' j' = cE g a n s j' := by
  intro j' hne
  by_cases h5 : j' < 5
  · simp only [cE, h5, if_true]; exact hb j' h5 hne
  · simp only [cE, h5, if_false]
    exact hn _ _ (by omega) (by omega)
theorem wC_setB {g : GG} {a : Nat → Nat} {n : Nat} {s s' : CS} {j : Nat} {e : va_E} (hj : j < 5) (hs : bE g a n s' j = e) (hb : ∀ j', j' < 5 → j' ≠ j → bE g a n s' j' = bE g a n s j') (hn : ∀ i r, nE g a s' i r = nE g a s i r) : (wC g a n s).set j (a j, e) = wC g a n s' :=
  wC_set (by simp [cE, hj, hs]) (cE_other hb (fun i r _ _ => hn i r))
theorem wC_setN {g : GG} {a : Nat → Nat} {n : Nat} {s s' : CS} {i r : Nat} {e : va_E} (hr : r < 7) (hs : nE g a s' i r = e) (hb : ∀ j', bE g a n s' j' = bE g a n s j') (hn : ∀ i' r', r' < 7 → (i' ≠ i ∨ r' ≠ r) → nE g a s' i' r' = nE g a s i' r') : (wC g a n s).set (7 * i + (5 + r)) (a (7 * i + (5 + r)), e) = wC g a n s' :=
  wC_set (by rw [cE_n hr]; exact hs) (cE_other (fun j' _ _ => hb j') (fun i' r' hr' hne => hn i' r' hr' (by omega)))
theorem wp_hist {g : GG} {a : Nat → Nat} {n : Nat} {s : CS} {i v : Nat} : (wC g a n s).set (7 * i + 5) (a (7 * i + 5), .inr (1, [.ref (a (7 * i + 6)), .ref (a (7 * i + 7)), .int (nI v), .int (nI (s 6 i 0)), .int (nI (s 7 i 0))])) = wC g a n (w3 s 5 i 0 v) := by
  refine wC_setN (r := 0) (by omega) ?_ ?_ ?_
  · simp [nE, w3]
  · intro j; unfold bE; split <;> simp [w3]
  · intro i' r' h7 h; have e : ∀ c' i'' k', ¬ (c' = 5 ∧ i'' = i ∧ k' = 0) → w3 s 5 i 0 v c' i'' k' = s c' i'' k' := fun _ _ _ q => if_neg q
    rcases (show r' = 0 ∨ r' = 1 ∨ r' = 2 ∨ r' = 3 ∨ r' = 4 ∨ r' = 5 ∨ r' = 6 by omega) with rfl | rfl | rfl | rfl | rfl | rfl | rfl <;> simp only [nE] <;> (try simp (discharger := omega) only [e])
theorem wp_ackd {g : GG} {a : Nat → Nat} {n : Nat} {s : CS} {i v : Nat} : (wC g a n s).set (7 * i + 5) (a (7 * i + 5), .inr (1, [.ref (a (7 * i + 6)), .ref (a (7 * i + 7)), .int (nI (s 5 i 0)), .int (nI v), .int (nI (s 7 i 0))])) = wC g a n (w3 s 6 i 0 v) := by
  refine wC_setN (r := 0) (by omega) ?_ ?_ ?_
  · simp [nE, w3]
  · intro j; unfold bE; split <;> simp [w3]
  · intro i' r' h7 h; have e : ∀ c' i'' k', ¬ (c' = 6 ∧ i'' = i ∧ k' = 0) → w3 s 6 i 0 v c' i'' k' = s c' i'' k' := fun _ _ _ q => if_neg q
    rcases (show r' = 0 ∨ r' = 1 ∨ r' = 2 ∨ r' = 3 ∨ r' = 4 ∨ r' = 5 ∨ r' = 6 by omega) with rfl | rfl | rfl | rfl | rfl | rfl | rfl <;> simp only [nE] <;> (try simp (discharger := omega) only [e])
theorem wp_fail {g : GG} {a : Nat → Nat} {n : Nat} {s : CS} {i v : Nat} : (wC g a n s).set (7 * i + 5) (a (7 * i + 5), .inr (1, [.ref (a (7 * i + 6)), .ref (a (7 * i + 7)), .int (nI (s 5 i 0)), .int (nI (s 6 i 0)), .int (nI v)])) = wC g a n (w3 s 7 i 0 v) := by
  refine wC_setN (r := 0) (by omega) ?_ ?_ ?_
  · simp [nE, w3]
  · intro j; unfold bE; split <;> simp [w3]
  · intro i' r' h7 h; have e : ∀ c' i'' k', ¬ (c' = 7 ∧ i'' = i ∧ k' = 0) → w3 s 7 i 0 v c' i'' k' = s c' i'' k' := fun _ _ _ q => if_neg q
    rcases (show r' = 0 ∨ r' = 1 ∨ r' = 2 ∨ r' = 3 ∨ r' = 4 ∨ r' = 5 ∨ r' = 6 by omega) with rfl | rfl | rfl | rfl | rfl | rfl | rfl <;> simp only [nE] <;> (try simp (discharger := omega) only [e])
theorem wp_open {g : GG} {a : Nat → Nat} {n : Nat} {s : CS} {i v : Nat} : (wC g a n s).set (7 * i + 7) (a (7 * i + 7), .inr (0, [.ref (a (7 * i + 8)), .ref (a (7 * i + 10)), .int (nI v)])) = wC g a n (w3 s 8 i 0 v) := by
  refine wC_setN (r := 2) (by omega) ?_ ?_ ?_
  · simp [nE, w3]
  · intro j; unfold bE; split <;> simp [w3]
  · intro i' r' h7 h; have e : ∀ c' i'' k', ¬ (c' = 8 ∧ i'' = i ∧ k' = 0) → w3 s 8 i 0 v c' i'' k' = s c' i'' k' := fun _ _ _ q => if_neg q
    rcases (show r' = 0 ∨ r' = 1 ∨ r' = 2 ∨ r' = 3 ∨ r' = 4 ∨ r' = 5 ∨ r' = 6 by omega) with rfl | rfl | rfl | rfl | rfl | rfl | rfl <;> simp only [nE] <;> (try simp (discharger := omega) only [e])
theorem wp_vals {g : GG} {a : Nat → Nat} {n : Nat} {s : CS} {i k0 v : Nat} : (wC g a n s).set (7 * i + 6) (a (7 * i + 6), .inl (gI g, 8, .inl (upd (fun k => nI (s 12 i k)) k0 (nI v)))) = wC g a n (w3 s 12 i k0 v) := by
  refine wC_setN (r := 1) (by omega) ?_ ?_ ?_
  · simp only [nE]; congr; funext k; by_cases hk : k = k0 <;> simp [w3, upd, hk]
  · intro j; unfold bE; split <;> simp [w3]
  · intro i' r' h7 h; have e : ∀ c' i'' k', ¬ (c' = 12 ∧ i'' = i ∧ k' = k0) → w3 s 12 i k0 v c' i'' k' = s c' i'' k' := fun _ _ _ q => if_neg q
    rcases (show r' = 0 ∨ r' = 1 ∨ r' = 2 ∨ r' = 3 ∨ r' = 4 ∨ r' = 5 ∨ r' = 6 by omega) with rfl | rfl | rfl | rfl | rfl | rfl | rfl <;> simp only [nE] <;> (try simp (discharger := omega) only [e])
theorem wp_first {g : GG} {a : Nat → Nat} {n : Nat} {s : CS} {i w v : Nat} (hw : w < 2) : (wC g a n s).set (7 * i + 8 + 2 * w) (a (7 * i + 8 + 2 * w), .inr (2, [.ref (a (7 * i + 9 + 2 * w)), .int (nI v), .int (nI (s 10 (2 * i + w) 0))])) = wC g a n (w3 s 9 (2 * i + w) 0 v) := by
  rcases (show w = 0 ∨ w = 1 by omega) with rfl | rfl
  · refine wC_setN (r := 3) (by omega) ?_ ?_ ?_
    · simp [nE, w3]
    · intro j; unfold bE; split <;> simp [w3]
    · intro i' r' h7 h; have e : ∀ c' i'' k', ¬ (c' = 9 ∧ i'' = (2 * i + 0) ∧ k' = 0) → w3 s 9 (2 * i + 0) 0 v c' i'' k' = s c' i'' k' := fun _ _ _ q => if_neg q
      rcases (show r' = 0 ∨ r' = 1 ∨ r' = 2 ∨ r' = 3 ∨ r' = 4 ∨ r' = 5 ∨ r' = 6 by omega) with rfl | rfl | rfl | rfl | rfl | rfl | rfl <;> simp only [nE] <;> (try simp (discharger := omega) only [e])
  · refine wC_setN (r := 5) (by omega) ?_ ?_ ?_
    · simp [nE, w3]
    · intro j; unfold bE; split <;> simp [w3]
    · intro i' r' h7 h; have e : ∀ c' i'' k', ¬ (c' = 9 ∧ i'' = (2 * i + 1) ∧ k' = 0) → w3 s 9 (2 * i + 1) 0 v c' i'' k' = s c' i'' k' := fun _ _ _ q => if_neg q
      rcases (show r' = 0 ∨ r' = 1 ∨ r' = 2 ∨ r' = 3 ∨ r' = 4 ∨ r' = 5 ∨ r' = 6 by omega) with rfl | rfl | rfl | rfl | rfl | rfl | rfl <;> simp only [nE] <;> (try simp (discharger := omega) only [e])
theorem wp_size {g : GG} {a : Nat → Nat} {n : Nat} {s : CS} {i w v : Nat} (hw : w < 2) : (wC g a n s).set (7 * i + 8 + 2 * w) (a (7 * i + 8 + 2 * w), .inr (2, [.ref (a (7 * i + 9 + 2 * w)), .int (nI (s 9 (2 * i + w) 0)), .int (nI v)])) = wC g a n (w3 s 10 (2 * i + w) 0 v) := by
  rcases (show w = 0 ∨ w = 1 by omega) with rfl | rfl
  · refine wC_setN (r := 3) (by omega) ?_ ?_ ?_
    · simp [nE, w3]
    · intro j; unfold bE; split <;> simp [w3]
    · intro i' r' h7 h; have e : ∀ c' i'' k', ¬ (c' = 10 ∧ i'' = (2 * i + 0) ∧ k' = 0) → w3 s 10 (2 * i + 0) 0 v c' i'' k' = s c' i'' k' := fun _ _ _ q => if_neg q
      rcases (show r' = 0 ∨ r' = 1 ∨ r' = 2 ∨ r' = 3 ∨ r' = 4 ∨ r' = 5 ∨ r' = 6 by omega) with rfl | rfl | rfl | rfl | rfl | rfl | rfl <;> simp only [nE] <;> (try simp (discharger := omega) only [e])
  · refine wC_setN (r := 5) (by omega) ?_ ?_ ?_
    · simp [nE, w3]
    · intro j; unfold bE; split <;> simp [w3]
    · intro i' r' h7 h; have e : ∀ c' i'' k', ¬ (c' = 10 ∧ i'' = (2 * i + 1) ∧ k' = 0) → w3 s 10 (2 * i + 1) 0 v c' i'' k' = s c' i'' k' := fun _ _ _ q => if_neg q
      rcases (show r' = 0 ∨ r' = 1 ∨ r' = 2 ∨ r' = 3 ∨ r' = 4 ∨ r' = 5 ∨ r' = 6 by omega) with rfl | rfl | rfl | rfl | rfl | rfl | rfl <;> simp only [nE] <;> (try simp (discharger := omega) only [e])
theorem wp_row {g : GG} {a : Nat → Nat} {n : Nat} {s : CS} {i w k0 v : Nat} (hw : w < 2) : (wC g a n s).set (7 * i + 9 + 2 * w) (a (7 * i + 9 + 2 * w), .inl (gI g, 40, .inl (upd (fun k => nI (s 11 (2 * i + w) k)) k0 (nI v)))) = wC g a n (w3 s 11 (2 * i + w) k0 v) := by
  rcases (show w = 0 ∨ w = 1 by omega) with rfl | rfl
  · refine wC_setN (r := 4) (by omega) ?_ ?_ ?_
    · simp only [nE]; congr; funext k; by_cases hk : k = k0 <;> simp [w3, upd, hk]
    · intro j; unfold bE; split <;> simp [w3]
    · intro i' r' h7 h; have e : ∀ c' i'' k', ¬ (c' = 11 ∧ i'' = (2 * i + 0) ∧ k' = k0) → w3 s 11 (2 * i + 0) k0 v c' i'' k' = s c' i'' k' := fun _ _ _ q => if_neg q
      rcases (show r' = 0 ∨ r' = 1 ∨ r' = 2 ∨ r' = 3 ∨ r' = 4 ∨ r' = 5 ∨ r' = 6 by omega) with rfl | rfl | rfl | rfl | rfl | rfl | rfl <;> simp only [nE] <;> (try simp (discharger := omega) only [e])
  · refine wC_setN (r := 6) (by omega) ?_ ?_ ?_
    · simp only [nE]; congr; funext k; by_cases hk : k = k0 <;> simp [w3, upd, hk]
    · intro j; unfold bE; split <;> simp [w3]
    · intro i' r' h7 h; have e : ∀ c' i'' k', ¬ (c' = 11 ∧ i'' = (2 * i + 1) ∧ k' = k0) → w3 s 11 (2 * i + 1) k0 v c' i'' k' = s c' i'' k' := fun _ _ _ q => if_neg q
      rcases (show r' = 0 ∨ r' = 1 ∨ r' = 2 ∨ r' = 3 ∨ r' = 4 ∨ r' = 5 ∨ r' = 6 by omega) with rfl | rfl | rfl | rfl | rfl | rfl | rfl <;> simp only [nE] <;> (try simp (discharger := omega) only [e])
theorem wp_keys {g : GG} {a : Nat → Nat} {n : Nat} {s : CS} {k0 v : Nat} : (wC g a n s).set 1 (a 1, .inl (gI g, 41, .inl (upd (fun k => nI (s 2 0 k)) k0 (nI v)))) = wC g a n (w3 s 2 0 k0 v) := by
  refine wC_setB (by omega) ?_ ?_ ?_
  · simp only [bE]; congr; funext k; by_cases hk : k = k0 <;> simp [w3, upd, hk]
  · intro j h5 hne; unfold bE; split <;> simp_all [w3] <;> omega
  · intro i r; unfold nE; split <;> simp [w3]
theorem wp_vs {g : GG} {a : Nat → Nat} {n : Nat} {s : CS} {k0 v : Nat} : (wC g a n s).set 2 (a 2, .inl (gI g, 41, .inl (upd (fun k => nI (s 3 0 k)) k0 (nI v)))) = wC g a n (w3 s 3 0 k0 v) := by
  refine wC_setB (by omega) ?_ ?_ ?_
  · simp only [bE]; congr; funext k; by_cases hk : k = k0 <;> simp [w3, upd, hk]
  · intro j h5 hne; unfold bE; split <;> simp_all [w3] <;> omega
  · intro i r; unfold nE; split <;> simp [w3]
theorem wp_chain {g : GG} {a : Nat → Nat} {n : Nat} {s : CS} {k0 v : Nat} : (wC g a n s).set 4 (a 4, .inl (gI g, n, .inl (upd (fun k => nI (s 0 0 k)) k0 (nI v)))) = wC g a n (w3 s 0 0 k0 v) := by
  refine wC_setB (by omega) ?_ ?_ ?_
  · simp only [bE]; congr; funext k; by_cases hk : k = k0 <;> simp [w3, upd, hk]
  · intro j h5 hne; unfold bE; split <;> simp_all [w3] <;> omega
  · intro i r; unfold nE; split <;> simp [w3]
theorem wp_len {g : GG} {a : Nat → Nat} {n : Nat} {s : CS} {v : Nat} : (wC g a n s).set 0 (a 0, .inr (3, [.ref (a 3), .ref (a 4), .int (nI v), .ref (a 1), .ref (a 2), .int (nI (s 4 0 0))])) = wC g a n (w3 s 1 0 0 v) := by
  refine wC_setB (by omega) ?_ ?_ ?_
  · simp [bE, w3]
  · intro j h5 hne; unfold bE; split <;> simp_all [w3]
  · intro i r; unfold nE; split <;> simp [w3]
theorem wp_repl {g : GG} {a : Nat → Nat} {n : Nat} {s : CS} {v : Nat} : (wC g a n s).set 0 (a 0, .inr (3, [.ref (a 3), .ref (a 4), .int (nI (s 1 0 0)), .ref (a 1), .ref (a 2), .int (nI v)])) = wC g a n (w3 s 4 0 0 v) := by
  refine wC_setB (by omega) ?_ ?_ ?_
  · simp [bE, w3]
  · intro j h5 hne; unfold bE; split <;> simp_all [w3]
  · intro i r; unfold nE; split <;> simp [w3]
theorem P_eq {D : va_G} {cl : List vw_C} {w1 w2 : va_W} {H : Heap} (e : w1 = w2) (h : va_P D cl w1 H) : va_P D cl w2 H := e ▸ h
