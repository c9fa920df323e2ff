/-! THE REFERENCE'S CONSTRUCTOR -/
def mS (n c : Nat) : CS := fun code _ k => if code = 0 then (if k < c then k else 0) else if code = 1 then n else if code = 10 then n else if code = 3 then (if k < c ∧ k + 1 < n then 1 else 0) else 0
theorem mS_step {g : GG} {a : Nat → Nat} {n k v : Nat} (hv : v = if k + 1 < n then 1 else 0) : wM g a (w3 (w3 (mS n k) 0 0 k k) 3 0 k v) = wM g a (mS n (k + 1)) := by
  have e0 : (fun j => nI (w3 (w3 (mS n k) 0 0 k k) 3 0 k v 0 0 j)) = fun j => nI (mS n (k + 1) 0 0 j) := by
    funext j
    by_cases h1 : j = k
    · subst h1; simp [w3, mS]
    · by_cases h2 : j < k
      · simp [w3, mS, h1, h2, show j < k + 1 by omega]
      · simp [w3, mS, h1, h2, show ¬ j < k + 1 by omega]
  have e3 : (fun j => nI (w3 (w3 (mS n k) 0 0 k k) 3 0 k v 3 0 j)) = fun j => nI (mS n (k + 1) 3 0 j) := by
    funext j
    by_cases h1 : j = k
    · subst h1; by_cases h3 : j + 1 < n <;> simp [w3, mS, hv, h3]
    · by_cases h2 : j < k
      · simp [w3, mS, h1, h2, show j < k + 1 by omega]
      · simp [w3, mS, h1, h2, show ¬ j < k + 1 by omega]
  unfold wM
  rw [e0, e3]
  simp [w3, mS]
set_option maxHeartbeats 4000000 in
set_option maxRecDepth 100000 in
/-- SplicedChainModel(int) -/
theorem c_X4_init (l : Launch) (g : GG) (b : Nat) (sz : Nat) {n : Nat} {x : Int32} (hn : (x = nI n ∧ 1 ≤ n ∧ n ≤ 6) ∨ ((x < nI 1 ∨ nI 6 < x) ∧ n = 3)) : Met l yX4_init wsX4_init ({ frames := 1, cells := 7, slots := 522, locals := 12 }) (pI g [.ref b, .int x] [(b, .inr (4, [.int (nI 0), .int (nI 0), .int (nI 0), .null, .null, .null, .null, .null, .null, .null, .int (nI 0)]))] sz) (qN (S := { a : Nat → Nat // a 0 = b }) g (fun u => wM g u.1 (mS n n)) (va_A [(b, .inr (4, [.int (nI 0), .int (nI 0), .int (nI 0), .null, .null, .null, .null, .null, .null, .null, .int (nI 0)]))] sz)) 7 522 (va_A [(b, .inr (4, [.int (nI 0), .int (nI 0), .int (nI 0), .null, .null, .null, .null, .null, .null, .null, .int (nI 0)]))] sz) := by
  refine k_startI (cc := cX4_init) (maxL := 3) (by decide) rfl (Nat.le_of_ble_eq_true rfl) ?_
  intro pr en s0 m args below meth cd hx hb hml hr hlk hts hown hin hC hz hP ls hl
  subst hz
  have hD : va_D (va_A [(b, .inr (4, [.int (nI 0), .int (nI 0), .int (nI 0), .null, .null, .null, .null, .null, .null, .null, .int (nI 0)]))] s0.heap.size) [(b, .inr (4, [.int (nI 0), .int (nI 0), .int (nI 0), .null, .null, .null, .null, .null, .null, .null, .int (nI 0)]))] := ⟨fun i j p q h1 h2 _ => by (have := (List.getElem?_eq_some_iff.mp h1).1); (have := (List.getElem?_eq_some_iff.mp h2).1); simp at *; omega, fun _ _ hk => va_A.in hk⟩
  generalize hAe : va_A [(b, .inr (4, [.int (nI 0), .int (nI 0), .int (nI 0), .null, .null, .null, .null, .null, .null, .null, .int (nI 0)]))] s0.heap.size = A at hD ⊢
  have hA : ∀ q : Nat, s0.heap.size ≤ q → A q := fun q h => by rw [← hAe]; exact Or.inr h
  have hS : va_S A s0.heap s0.heap [] := va_S.rf
  have hfx : CallFix pr m cd cX4_init 3 s0 args wsX4_init RX4 := ⟨hx, hb, hml, hown, hts⟩
  have hu : ∀ w ∈ wsX40, w.before args s0 = true := fun w h => hts w ((by decide +kernel : ∀ w ∈ wsX40, w ∈ wsX4_init) w h)
  have hu4 := hu
  have hn6 : 1 ≤ n ∧ n ≤ 6 := by rcases hn with q | q; exact q.2; omega
  have hl : lv_has ls 3 [(0, .ref b), (1, .int x)] := hl
  refine lv_aload_n hx hb dX4_init_0 rfl (lv_at hl 0 rfl) ?_
  refine W.objInit hx hb hown (hts (.methodLink RX4 1 objectInit) (by decide +kernel)) (hts (.instanceMethod objectInit) (by decide +kernel)) (hts (.code objectInit ⟨#[0xb1]⟩ 1 none) (by decide +kernel)) rfl (by rw [hml]; exact hl.1) rfl dX4_init_1 (by decide) (Nat.le_of_ble_eq_true rfl) ?_
  refine W.eq (g2 := F0 m 4 ls []) rfl ?_
  refine lv_aload_n hx hb dX4_init_4 rfl (lv_at hl 0 rfl) ?_
  refine k_bi (x := 6) hx hb dX4_init_5 (by decide) ?_
  refine k_newI (N := 6) hx hb (hts (.arrayClass .int) (by decide +kernel)) hC hP hD hS hA (by decide) (by decide) (by decide) dX4_init_7 (fun q1 H hP hD hS => ?_)
  have hP : va_P g.1 vwCl [(b, .inr (4, [.int (nI 0), .int (nI 0), .int (nI 0), .null, .null, .null, .null, .null, .null, .null, .int (nI 0)])), (q1, .inl (gI g, 6, .inl (fun _ => nI 0)))] H := hP
  have hD : va_D A [(b, .inr (4, [.int (nI 0), .int (nI 0), .int (nI 0), .null, .null, .null, .null, .null, .null, .null, .int (nI 0)])), (q1, .inl (gI g, 6, .inl (fun _ => nI 0)))] := hD
  refine va_put (D := g.1) (ci := 4) (v := .ref q1) (ty := .array .int) (C := RX4) (T := TX4) (N := 11) hx hb hu (fun _ h => h) tyX4 tyX4_ok nmX4 hown hC.1 hP hD hS 0 rfl rfl 3 (by decide) (hts (.fieldLink RX4 7 "SplicedChainModel" "chain" "[I") (by decide +kernel)) (fun _ h9 => h9) rfl (by decide +kernel) rfl rfl (Nat.le_of_ble_eq_true rfl) dX4_init_9 (fun H locs hP hD hS => ?_)
  have hP : va_P g.1 vwCl [(b, .inr (4, [.int (nI 0), .int (nI 0), .int (nI 0), .ref q1, .null, .null, .null, .null, .null, .null, .int (nI 0)])), (q1, .inl (gI g, 6, .inl (fun _ => nI 0)))] H := hP
  have hD : va_D A [(b, .inr (4, [.int (nI 0), .int (nI 0), .int (nI 0), .ref q1, .null, .null, .null, .null, .null, .null, .int (nI 0)])), (q1, .inl (gI g, 6, .inl (fun _ => nI 0)))] := hD
  refine lv_aload_n hx hb dX4_init_12 rfl (lv_at hl 0 rfl) ?_
  refine k_bi (x := 6) hx hb dX4_init_13 (by decide) ?_
  refine k_newZ (N := 6) hx hb (hts (.arrayClass .boolean) (by decide +kernel)) hC hP hD hS hA (by decide) (by decide) (by decide) dX4_init_15 (fun q2 H hP hD hS => ?_)
  have hP : va_P g.1 vwCl [(b, .inr (4, [.int (nI 0), .int (nI 0), .int (nI 0), .ref q1, .null, .null, .null, .null, .null, .null, .int (nI 0)])), (q1, .inl (gI g, 6, .inl (fun _ => nI 0))), (q2, .inl (gZ g, 6, .inl (fun _ => nI 0)))] H := hP
  have hD : va_D A [(b, .inr (4, [.int (nI 0), .int (nI 0), .int (nI 0), .ref q1, .null, .null, .null, .null, .null, .null, .int (nI 0)])), (q1, .inl (gI g, 6, .inl (fun _ => nI 0))), (q2, .inl (gZ g, 6, .inl (fun _ => nI 0)))] := hD
  refine va_put (D := g.1) (ci := 4) (v := .ref q2) (ty := .array .boolean) (C := RX4) (T := TX4) (N := 11) hx hb hu (fun _ h => h) tyX4 tyX4_ok nmX4 hown hC.1 hP hD hS 0 rfl rfl 4 (by decide) (hts (.fieldLink RX4 13 "SplicedChainModel" "failed" "[Z") (by decide +kernel)) (fun _ h9 => h9) rfl (by decide +kernel) rfl rfl (Nat.le_of_ble_eq_true rfl) dX4_init_17 (fun H locs hP hD hS => ?_)
  have hP : va_P g.1 vwCl [(b, .inr (4, [.int (nI 0), .int (nI 0), .int (nI 0), .ref q1, .ref q2, .null, .null, .null, .null, .null, .int (nI 0)])), (q1, .inl (gI g, 6, .inl (fun _ => nI 0))), (q2, .inl (gZ g, 6, .inl (fun _ => nI 0)))] H := hP
  have hD : va_D A [(b, .inr (4, [.int (nI 0), .int (nI 0), .int (nI 0), .ref q1, .ref q2, .null, .null, .null, .null, .null, .int (nI 0)])), (q1, .inl (gI g, 6, .inl (fun _ => nI 0))), (q2, .inl (gZ g, 6, .inl (fun _ => nI 0)))] := hD
  refine lv_aload_n hx hb dX4_init_20 rfl (lv_at hl 0 rfl) ?_
  refine k_bi (x := 6) hx hb dX4_init_21 (by decide) ?_
  refine k_newZ (N := 6) hx hb (hts (.arrayClass .boolean) (by decide +kernel)) hC hP hD hS hA (by decide) (by decide) (by decide) dX4_init_23 (fun q3 H hP hD hS => ?_)
  have hP : va_P g.1 vwCl [(b, .inr (4, [.int (nI 0), .int (nI 0), .int (nI 0), .ref q1, .ref q2, .null, .null, .null, .null, .null, .int (nI 0)])), (q1, .inl (gI g, 6, .inl (fun _ => nI 0))), (q2, .inl (gZ g, 6, .inl (fun _ => nI 0))), (q3, .inl (gZ g, 6, .inl (fun _ => nI 0)))] H := hP
  have hD : va_D A [(b, .inr (4, [.int (nI 0), .int (nI 0), .int (nI 0), .ref q1, .ref q2, .null, .null, .null, .null, .null, .int (nI 0)])), (q1, .inl (gI g, 6, .inl (fun _ => nI 0))), (q2, .inl (gZ g, 6, .inl (fun _ => nI 0))), (q3, .inl (gZ g, 6, .inl (fun _ => nI 0)))] := hD
  refine va_put (D := g.1) (ci := 4) (v := .ref q3) (ty := .array .boolean) (C := RX4) (T := TX4) (N := 11) hx hb hu (fun _ h => h) tyX4 tyX4_ok nmX4 hown hC.1 hP hD hS 0 rfl rfl 5 (by decide) (hts (.fieldLink RX4 17 "SplicedChainModel" "open" "[Z") (by decide +kernel)) (fun _ h9 => h9) rfl (by decide +kernel) rfl rfl (Nat.le_of_ble_eq_true rfl) dX4_init_25 (fun H locs hP hD hS => ?_)
  have hP : va_P g.1 vwCl [(b, .inr (4, [.int (nI 0), .int (nI 0), .int (nI 0), .ref q1, .ref q2, .ref q3, .null, .null, .null, .null, .int (nI 0)])), (q1, .inl (gI g, 6, .inl (fun _ => nI 0))), (q2, .inl (gZ g, 6, .inl (fun _ => nI 0))), (q3, .inl (gZ g, 6, .inl (fun _ => nI 0)))] H := hP
  have hD : va_D A [(b, .inr (4, [.int (nI 0), .int (nI 0), .int (nI 0), .ref q1, .ref q2, .ref q3, .null, .null, .null, .null, .int (nI 0)])), (q1, .inl (gI g, 6, .inl (fun _ => nI 0))), (q2, .inl (gZ g, 6, .inl (fun _ => nI 0))), (q3, .inl (gZ g, 6, .inl (fun _ => nI 0)))] := hD
  refine lv_aload_n hx hb dX4_init_28 rfl (lv_at hl 0 rfl) ?_
  refine k_bi (x := 6) hx hb dX4_init_29 (by decide) ?_
  refine k_newI (N := 6) hx hb (hts (.arrayClass .int) (by decide +kernel)) hC hP hD hS hA (by decide) (by decide) (by decide) dX4_init_31 (fun q4 H hP hD hS => ?_)
  have hP : va_P g.1 vwCl [(b, .inr (4, [.int (nI 0), .int (nI 0), .int (nI 0), .ref q1, .ref q2, .ref q3, .null, .null, .null, .null, .int (nI 0)])), (q1, .inl (gI g, 6, .inl (fun _ => nI 0))), (q2, .inl (gZ g, 6, .inl (fun _ => nI 0))), (q3, .inl (gZ g, 6, .inl (fun _ => nI 0))), (q4, .inl (gI g, 6, .inl (fun _ => nI 0)))] H := hP
  have hD : va_D A [(b, .inr (4, [.int (nI 0), .int (nI 0), .int (nI 0), .ref q1, .ref q2, .ref q3, .null, .null, .null, .null, .int (nI 0)])), (q1, .inl (gI g, 6, .inl (fun _ => nI 0))), (q2, .inl (gZ g, 6, .inl (fun _ => nI 0))), (q3, .inl (gZ g, 6, .inl (fun _ => nI 0))), (q4, .inl (gI g, 6, .inl (fun _ => nI 0)))] := hD
  refine va_put (D := g.1) (ci := 4) (v := .ref q4) (ty := .array .int) (C := RX4) (T := TX4) (N := 11) hx hb hu (fun _ h => h) tyX4 tyX4_ok nmX4 hown hC.1 hP hD hS 0 rfl rfl 6 (by decide) (hts (.fieldLink RX4 20 "SplicedChainModel" "history" "[I") (by decide +kernel)) (fun _ h9 => h9) rfl (by decide +kernel) rfl rfl (Nat.le_of_ble_eq_true rfl) dX4_init_33 (fun H locs hP hD hS => ?_)
  have hP : va_P g.1 vwCl [(b, .inr (4, [.int (nI 0), .int (nI 0), .int (nI 0), .ref q1, .ref q2, .ref q3, .ref q4, .null, .null, .null, .int (nI 0)])), (q1, .inl (gI g, 6, .inl (fun _ => nI 0))), (q2, .inl (gZ g, 6, .inl (fun _ => nI 0))), (q3, .inl (gZ g, 6, .inl (fun _ => nI 0))), (q4, .inl (gI g, 6, .inl (fun _ => nI 0)))] H := hP
  have hD : va_D A [(b, .inr (4, [.int (nI 0), .int (nI 0), .int (nI 0), .ref q1, .ref q2, .ref q3, .ref q4, .null, .null, .null, .int (nI 0)])), (q1, .inl (gI g, 6, .inl (fun _ => nI 0))), (q2, .inl (gZ g, 6, .inl (fun _ => nI 0))), (q3, .inl (gZ g, 6, .inl (fun _ => nI 0))), (q4, .inl (gI g, 6, .inl (fun _ => nI 0)))] := hD
  refine lv_aload_n hx hb dX4_init_36 rfl (lv_at hl 0 rfl) ?_
  refine k_bi (x := 6) hx hb dX4_init_37 (by decide) ?_
  refine k_newI (N := 6) hx hb (hts (.arrayClass .int) (by decide +kernel)) hC hP hD hS hA (by decide) (by decide) (by decide) dX4_init_39 (fun q5 H hP hD hS => ?_)
  have hP : va_P g.1 vwCl [(b, .inr (4, [.int (nI 0), .int (nI 0), .int (nI 0), .ref q1, .ref q2, .ref q3, .ref q4, .null, .null, .null, .int (nI 0)])), (q1, .inl (gI g, 6, .inl (fun _ => nI 0))), (q2, .inl (gZ g, 6, .inl (fun _ => nI 0))), (q3, .inl (gZ g, 6, .inl (fun _ => nI 0))), (q4, .inl (gI g, 6, .inl (fun _ => nI 0))), (q5, .inl (gI g, 6, .inl (fun _ => nI 0)))] H := hP
  have hD : va_D A [(b, .inr (4, [.int (nI 0), .int (nI 0), .int (nI 0), .ref q1, .ref q2, .ref q3, .ref q4, .null, .null, .null, .int (nI 0)])), (q1, .inl (gI g, 6, .inl (fun _ => nI 0))), (q2, .inl (gZ g, 6, .inl (fun _ => nI 0))), (q3, .inl (gZ g, 6, .inl (fun _ => nI 0))), (q4, .inl (gI g, 6, .inl (fun _ => nI 0))), (q5, .inl (gI g, 6, .inl (fun _ => nI 0)))] := hD
  refine va_put (D := g.1) (ci := 4) (v := .ref q5) (ty := .array .int) (C := RX4) (T := TX4) (N := 11) hx hb hu (fun _ h => h) tyX4 tyX4_ok nmX4 hown hC.1 hP hD hS 0 rfl rfl 7 (by decide) (hts (.fieldLink RX4 23 "SplicedChainModel" "acked" "[I") (by decide +kernel)) (fun _ h9 => h9) rfl (by decide +kernel) rfl rfl (Nat.le_of_ble_eq_true rfl) dX4_init_41 (fun H locs hP hD hS => ?_)
  have hP : va_P g.1 vwCl [(b, .inr (4, [.int (nI 0), .int (nI 0), .int (nI 0), .ref q1, .ref q2, .ref q3, .ref q4, .ref q5, .null, .null, .int (nI 0)])), (q1, .inl (gI g, 6, .inl (fun _ => nI 0))), (q2, .inl (gZ g, 6, .inl (fun _ => nI 0))), (q3, .inl (gZ g, 6, .inl (fun _ => nI 0))), (q4, .inl (gI g, 6, .inl (fun _ => nI 0))), (q5, .inl (gI g, 6, .inl (fun _ => nI 0)))] H := hP
  have hD : va_D A [(b, .inr (4, [.int (nI 0), .int (nI 0), .int (nI 0), .ref q1, .ref q2, .ref q3, .ref q4, .ref q5, .null, .null, .int (nI 0)])), (q1, .inl (gI g, 6, .inl (fun _ => nI 0))), (q2, .inl (gZ g, 6, .inl (fun _ => nI 0))), (q3, .inl (gZ g, 6, .inl (fun _ => nI 0))), (q4, .inl (gI g, 6, .inl (fun _ => nI 0))), (q5, .inl (gI g, 6, .inl (fun _ => nI 0)))] := hD
  refine lv_aload_n hx hb dX4_init_44 rfl (lv_at hl 0 rfl) ?_
  refine lv_sipush (v := nI 246) hx hb dX4_init_45 (by decide) ?_
  refine k_newI (N := 246) hx hb (hts (.arrayClass .int) (by decide +kernel)) hC hP hD hS hA (by decide) (by decide) (by decide) dX4_init_48 (fun q6 H hP hD hS => ?_)
  have hP : va_P g.1 vwCl [(b, .inr (4, [.int (nI 0), .int (nI 0), .int (nI 0), .ref q1, .ref q2, .ref q3, .ref q4, .ref q5, .null, .null, .int (nI 0)])), (q1, .inl (gI g, 6, .inl (fun _ => nI 0))), (q2, .inl (gZ g, 6, .inl (fun _ => nI 0))), (q3, .inl (gZ g, 6, .inl (fun _ => nI 0))), (q4, .inl (gI g, 6, .inl (fun _ => nI 0))), (q5, .inl (gI g, 6, .inl (fun _ => nI 0))), (q6, .inl (gI g, 246, .inl (fun _ => nI 0)))] H := hP
  have hD : va_D A [(b, .inr (4, [.int (nI 0), .int (nI 0), .int (nI 0), .ref q1, .ref q2, .ref q3, .ref q4, .ref q5, .null, .null, .int (nI 0)])), (q1, .inl (gI g, 6, .inl (fun _ => nI 0))), (q2, .inl (gZ g, 6, .inl (fun _ => nI 0))), (q3, .inl (gZ g, 6, .inl (fun _ => nI 0))), (q4, .inl (gI g, 6, .inl (fun _ => nI 0))), (q5, .inl (gI g, 6, .inl (fun _ => nI 0))), (q6, .inl (gI g, 246, .inl (fun _ => nI 0)))] := hD
  refine va_put (D := g.1) (ci := 4) (v := .ref q6) (ty := .array .int) (C := RX4) (T := TX4) (N := 11) hx hb hu (fun _ h => h) tyX4 tyX4_ok nmX4 hown hC.1 hP hD hS 0 rfl rfl 8 (by decide) (hts (.fieldLink RX4 26 "SplicedChainModel" "keys" "[I") (by decide +kernel)) (fun _ h9 => h9) rfl (by decide +kernel) rfl rfl (Nat.le_of_ble_eq_true rfl) dX4_init_50 (fun H locs hP hD hS => ?_)
  have hP : va_P g.1 vwCl [(b, .inr (4, [.int (nI 0), .int (nI 0), .int (nI 0), .ref q1, .ref q2, .ref q3, .ref q4, .ref q5, .ref q6, .null, .int (nI 0)])), (q1, .inl (gI g, 6, .inl (fun _ => nI 0))), (q2, .inl (gZ g, 6, .inl (fun _ => nI 0))), (q3, .inl (gZ g, 6, .inl (fun _ => nI 0))), (q4, .inl (gI g, 6, .inl (fun _ => nI 0))), (q5, .inl (gI g, 6, .inl (fun _ => nI 0))), (q6, .inl (gI g, 246, .inl (fun _ => nI 0)))] H := hP
  have hD : va_D A [(b, .inr (4, [.int (nI 0), .int (nI 0), .int (nI 0), .ref q1, .ref q2, .ref q3, .ref q4, .ref q5, .ref q6, .null, .int (nI 0)])), (q1, .inl (gI g, 6, .inl (fun _ => nI 0))), (q2, .inl (gZ g, 6, .inl (fun _ => nI 0))), (q3, .inl (gZ g, 6, .inl (fun _ => nI 0))), (q4, .inl (gI g, 6, .inl (fun _ => nI 0))), (q5, .inl (gI g, 6, .inl (fun _ => nI 0))), (q6, .inl (gI g, 246, .inl (fun _ => nI 0)))] := hD
  refine lv_aload_n hx hb dX4_init_53 rfl (lv_at hl 0 rfl) ?_
  refine lv_sipush (v := nI 246) hx hb dX4_init_54 (by decide) ?_
  refine k_newI (N := 246) hx hb (hts (.arrayClass .int) (by decide +kernel)) hC hP hD hS hA (by decide) (by decide) (by decide) dX4_init_57 (fun q7 H hP hD hS => ?_)
  have hP : va_P g.1 vwCl [(b, .inr (4, [.int (nI 0), .int (nI 0), .int (nI 0), .ref q1, .ref q2, .ref q3, .ref q4, .ref q5, .ref q6, .null, .int (nI 0)])), (q1, .inl (gI g, 6, .inl (fun _ => nI 0))), (q2, .inl (gZ g, 6, .inl (fun _ => nI 0))), (q3, .inl (gZ g, 6, .inl (fun _ => nI 0))), (q4, .inl (gI g, 6, .inl (fun _ => nI 0))), (q5, .inl (gI g, 6, .inl (fun _ => nI 0))), (q6, .inl (gI g, 246, .inl (fun _ => nI 0))), (q7, .inl (gI g, 246, .inl (fun _ => nI 0)))] H := hP
  have hD : va_D A [(b, .inr (4, [.int (nI 0), .int (nI 0), .int (nI 0), .ref q1, .ref q2, .ref q3, .ref q4, .ref q5, .ref q6, .null, .int (nI 0)])), (q1, .inl (gI g, 6, .inl (fun _ => nI 0))), (q2, .inl (gZ g, 6, .inl (fun _ => nI 0))), (q3, .inl (gZ g, 6, .inl (fun _ => nI 0))), (q4, .inl (gI g, 6, .inl (fun _ => nI 0))), (q5, .inl (gI g, 6, .inl (fun _ => nI 0))), (q6, .inl (gI g, 246, .inl (fun _ => nI 0))), (q7, .inl (gI g, 246, .inl (fun _ => nI 0)))] := hD
  refine va_put (D := g.1) (ci := 4) (v := .ref q7) (ty := .array .int) (C := RX4) (T := TX4) (N := 11) hx hb hu (fun _ h => h) tyX4 tyX4_ok nmX4 hown hC.1 hP hD hS 0 rfl rfl 9 (by decide) (hts (.fieldLink RX4 29 "SplicedChainModel" "values" "[I") (by decide +kernel)) (fun _ h9 => h9) rfl (by decide +kernel) rfl rfl (Nat.le_of_ble_eq_true rfl) dX4_init_59 (fun H locs hP hD hS => ?_)
  have hP : va_P g.1 vwCl [(b, .inr (4, [.int (nI 0), .int (nI 0), .int (nI 0), .ref q1, .ref q2, .ref q3, .ref q4, .ref q5, .ref q6, .ref q7, .int (nI 0)])), (q1, .inl (gI g, 6, .inl (fun _ => nI 0))), (q2, .inl (gZ g, 6, .inl (fun _ => nI 0))), (q3, .inl (gZ g, 6, .inl (fun _ => nI 0))), (q4, .inl (gI g, 6, .inl (fun _ => nI 0))), (q5, .inl (gI g, 6, .inl (fun _ => nI 0))), (q6, .inl (gI g, 246, .inl (fun _ => nI 0))), (q7, .inl (gI g, 246, .inl (fun _ => nI 0)))] H := hP
  have hD : va_D A [(b, .inr (4, [.int (nI 0), .int (nI 0), .int (nI 0), .ref q1, .ref q2, .ref q3, .ref q4, .ref q5, .ref q6, .ref q7, .int (nI 0)])), (q1, .inl (gI g, 6, .inl (fun _ => nI 0))), (q2, .inl (gZ g, 6, .inl (fun _ => nI 0))), (q3, .inl (gZ g, 6, .inl (fun _ => nI 0))), (q4, .inl (gI g, 6, .inl (fun _ => nI 0))), (q5, .inl (gI g, 6, .inl (fun _ => nI 0))), (q6, .inl (gI g, 246, .inl (fun _ => nI 0))), (q7, .inl (gI g, 246, .inl (fun _ => nI 0)))] := hD
  have rest : ∀ ls : Array Slot, lv_has ls 3 [(0, .ref b), (1, .int x)] → W pr l en ({ frames := 1, cells := 7, slots := 522, locals := 12 }) s0 m args below meth cd H locs (0 + 1 + 1 + 1 + 1 + 1 + 1 + 1) (0 + 6 + 6 + 6 + 6 + 6 + 246 + 246) (MQ below (qN (S := { a : Nat → Nat // a 0 = b }) g (fun u => wM g u.1 (mS n n)) A) args s0 7 522 A) (F0 m 79 ls [.int (nI n), .ref b]) := by
    intro ls hl
    refine va_put (D := g.1) (ci := 4) (v := .int (nI n)) (ty := .int) (C := RX4) (T := TX4) (N := 11) hx hb hu (fun _ h => h) tyX4 tyX4_ok nmX4 hown hC.1 hP hD hS 0 rfl rfl 0 (by decide) (hts (.fieldLink RX4 32 "SplicedChainModel" "nodes" "I") (by decide +kernel)) (fun _ h9 => h9) rfl (by decide +kernel) rfl rfl (Nat.le_of_ble_eq_true rfl) dX4_init_79 (fun H locs hP hD hS => ?_)
    have hP : va_P g.1 vwCl [(b, .inr (4, [.int (nI n), .int (nI 0), .int (nI 0), .ref q1, .ref q2, .ref q3, .ref q4, .ref q5, .ref q6, .ref q7, .int (nI 0)])), (q1, .inl (gI g, 6, .inl (fun _ => nI 0))), (q2, .inl (gZ g, 6, .inl (fun _ => nI 0))), (q3, .inl (gZ g, 6, .inl (fun _ => nI 0))), (q4, .inl (gI g, 6, .inl (fun _ => nI 0))), (q5, .inl (gI g, 6, .inl (fun _ => nI 0))), (q6, .inl (gI g, 246, .inl (fun _ => nI 0))), (q7, .inl (gI g, 246, .inl (fun _ => nI 0)))] H := hP
    have hD : va_D A [(b, .inr (4, [.int (nI n), .int (nI 0), .int (nI 0), .ref q1, .ref q2, .ref q3, .ref q4, .ref q5, .ref q6, .ref q7, .int (nI 0)])), (q1, .inl (gI g, 6, .inl (fun _ => nI 0))), (q2, .inl (gZ g, 6, .inl (fun _ => nI 0))), (q3, .inl (gZ g, 6, .inl (fun _ => nI 0))), (q4, .inl (gI g, 6, .inl (fun _ => nI 0))), (q5, .inl (gI g, 6, .inl (fun _ => nI 0))), (q6, .inl (gI g, 246, .inl (fun _ => nI 0))), (q7, .inl (gI g, 246, .inl (fun _ => nI 0)))] := hD
    refine lv_aload_n hx hb dX4_init_82 rfl (lv_at hl 0 rfl) ?_
    refine lv_aload_n hx hb dX4_init_83 rfl (lv_at hl 0 rfl) ?_
    refine va_get (D := g.1) (C := RX4) (T := TX4) (N := 11) (ci := 4) hx hb hu (fun _ h => h) hown hC.1 hP 0 rfl rfl 0 (by decide) (hts (.fieldLink RX4 32 "SplicedChainModel" "nodes" "I") (by decide +kernel)) (fun _ h9 => h9) rfl dX4_init_84 ?_
    refine va_put (D := g.1) (ci := 4) (v := .int (nI n)) (ty := .int) (C := RX4) (T := TX4) (N := 11) hx hb hu (fun _ h => h) tyX4 tyX4_ok nmX4 hown hC.1 hP hD hS 0 rfl rfl 2 (by decide) (hts (.fieldLink RX4 36 "SplicedChainModel" "size" "I") (by decide +kernel)) (fun _ h9 => h9) rfl (by decide +kernel) rfl rfl (Nat.le_of_ble_eq_true rfl) dX4_init_87 (fun H locs hP hD hS => ?_)
    have hP : va_P g.1 vwCl [(b, .inr (4, [.int (nI n), .int (nI 0), .int (nI n), .ref q1, .ref q2, .ref q3, .ref q4, .ref q5, .ref q6, .ref q7, .int (nI 0)])), (q1, .inl (gI g, 6, .inl (fun _ => nI 0))), (q2, .inl (gZ g, 6, .inl (fun _ => nI 0))), (q3, .inl (gZ g, 6, .inl (fun _ => nI 0))), (q4, .inl (gI g, 6, .inl (fun _ => nI 0))), (q5, .inl (gI g, 6, .inl (fun _ => nI 0))), (q6, .inl (gI g, 246, .inl (fun _ => nI 0))), (q7, .inl (gI g, 246, .inl (fun _ => nI 0)))] H := hP
    have hD : va_D A [(b, .inr (4, [.int (nI n), .int (nI 0), .int (nI n), .ref q1, .ref q2, .ref q3, .ref q4, .ref q5, .ref q6, .ref q7, .int (nI 0)])), (q1, .inl (gI g, 6, .inl (fun _ => nI 0))), (q2, .inl (gZ g, 6, .inl (fun _ => nI 0))), (q3, .inl (gZ g, 6, .inl (fun _ => nI 0))), (q4, .inl (gI g, 6, .inl (fun _ => nI 0))), (q5, .inl (gI g, 6, .inl (fun _ => nI 0))), (q6, .inl (gI g, 246, .inl (fun _ => nI 0))), (q7, .inl (gI g, 246, .inl (fun _ => nI 0)))] := hD
    refine k_ic (x := 0) hx hb dX4_init_90 (by decide) ?_
    refine lv_istore_n (lv' := [(2, .int (nI 0)), (0, .ref b), (1, .int x)]) hx hb dX4_init_91 rfl hl (by decide) rfl (fun ls hl => ?_)
    have eW : [(b, .inr (4, [.int (nI n), .int (nI 0), .int (nI n), .ref q1, .ref q2, .ref q3, .ref q4, .ref q5, .ref q6, .ref q7, .int (nI 0)])), (q1, .inl (gI g, 6, .inl (fun _ => nI 0))), (q2, .inl (gZ g, 6, .inl (fun _ => nI 0))), (q3, .inl (gZ g, 6, .inl (fun _ => nI 0))), (q4, .inl (gI g, 6, .inl (fun _ => nI 0))), (q5, .inl (gI g, 6, .inl (fun _ => nI 0))), (q6, .inl (gI g, 246, .inl (fun _ => nI 0))), (q7, .inl (gI g, 246, .inl (fun _ => nI 0)))] = wM g (fun j => [b, q1, q2, q3, q4, q5, q6, q7].getD j 0) (mS n 0) := by
      simp [wM, mS]
    have hP := P_eq eW hP
    have hD : va_D A (wM g (fun j => [b, q1, q2, q3, q4, q5, q6, q7].getD j 0) (mS n 0)) := eW ▸ hD
    have ea : (fun j => [b, q1, q2, q3, q4, q5, q6, q7].getD j 0) 0 = b := rfl
    generalize (fun j => [b, q1, q2, q3, q4, q5, q6, q7].getD j 0) = a at hP hD ea
    have hA : Ap A a 8 := Ap.ofM hD
    rw [← ea] at hl
    refine W.widen (k := 7) (n := 522) (by decide) (by decide) ?_
    have loop : ∀ (d k : Nat), n + 1 ≤ k + d → k ≤ n → ∀ (H : Heap) (locs : List Loc), va_P g.1 vwCl (wM g a (mS n k)) H → va_S A s0.heap H locs → ∀ ls : Array Slot, lv_has ls 3 [(2, .int (nI k)), (0, .ref (a 0))] → W pr l en ({ frames := 1, cells := 7, slots := 522, locals := 12 }) s0 m args below meth cd H locs 7 522 (MQ below (qN (S := { a : Nat → Nat // a 0 = b }) g (fun u => wM g u.1 (mS n n)) A) args s0 7 522 A) (F0 m 92 ls []) := by
      intro d
      induction d with
      | zero => intro k h1 h2; exact absurd h1 (by omega)
      | succ d ih =>
        intro k h1 h2 H locs hP hS ls hl
        have e1 : (mS n k) 1 0 0 = n := rfl
        refine lv_iload_n hx hb dX4_init_92 rfl (lv_at hl 0 rfl) ?_
        refine lv_aload_n hx hb dX4_init_93 rfl (lv_at hl 1 rfl) ?_
        refine va_get (D := g.1) (C := RX4) (T := TX4) (N := 11) (ci := 4) hx hb hu4 (fun _ h => h) hown hC.1 hP _ (wM_obj) rfl 2 (by decide) (hts (.fieldLink RX4 36 "SplicedChainModel" "size" "I") (by decide +kernel)) (fun _ h9 => h9) rfl dX4_init_94 ?_
        refine k_icmp_ge (tgt := 134) hx hb dX4_init_97 (by decide) (by omega) (by omega) (fun c97 => ?_) (fun c97 => ?_)
        · skip
          have ek : k = n := by omega
          subst ek
          exact k_vretN (S := { a : Nat → Nat // a 0 = b }) ⟨a, ea⟩ hx hb hr hlk hP hA.M hS dX4_init_134
        · skip
          refine lv_aload_n hx hb dX4_init_100 rfl (lv_at hl 1 rfl) ?_
          refine va_get (D := g.1) (C := RX4) (T := TX4) (N := 11) (ci := 4) hx hb hu4 (fun _ h => h) hown hC.1 hP _ (wM_obj) rfl 3 (by decide) (hts (.fieldLink RX4 7 "SplicedChainModel" "chain" "[I") (by decide +kernel)) (fun _ h9 => h9) rfl dX4_init_101 ?_
          refine lv_iload_n hx hb dX4_init_104 rfl (lv_at hl 0 rfl) ?_
          refine lv_iload_n hx hb dX4_init_105 rfl (lv_at hl 0 rfl) ?_
          refine k_iast hx hb hC hP hA.M hS _ (wM_chain) (j := k) (by omega) (by omega) dX4_init_106 wpM_chain (fun H locs hP hS => ?_)
          refine lv_aload_n hx hb dX4_init_107 rfl (lv_at hl 1 rfl) ?_
          refine va_get (D := g.1) (C := RX4) (T := TX4) (N := 11) (ci := 4) hx hb hu4 (fun _ h => h) hown hC.1 hP _ (wM_obj) rfl 5 (by decide) (hts (.fieldLink RX4 17 "SplicedChainModel" "open" "[Z") (by decide +kernel)) (fun _ h9 => h9) rfl dX4_init_108 ?_
          refine lv_iload_n hx hb dX4_init_111 rfl (lv_at hl 0 rfl) ?_
          refine lv_iload_n hx hb dX4_init_112 rfl (lv_at hl 0 rfl) ?_
          refine k_ic (x := 1) hx hb dX4_init_113 (by decide) ?_
          refine k_iadd (x := k) (y := 1) hx hb dX4_init_114 ?_
          refine lv_aload_n hx hb dX4_init_115 rfl (lv_at hl 1 rfl) ?_
          refine va_get (D := g.1) (C := RX4) (T := TX4) (N := 11) (ci := 4) hx hb hu4 (fun _ h => h) hown hC.1 hP _ (wM_obj) rfl 2 (by decide) (hts (.fieldLink RX4 36 "SplicedChainModel" "size" "I") (by decide +kernel)) (fun _ h9 => h9) rfl dX4_init_116 ?_
          refine k_as (x := (mS n k) 1 0 0) (by simp [w3]) ?_
          refine k_icmp_ge (tgt := 126) hx hb dX4_init_119 (by decide) (by omega) (by omega) (fun c119 => ?_) (fun c119 => ?_)
          · skip
            refine k_ic (x := 0) hx hb dX4_init_126 (by decide) ?_
            refine k_zast hx hb hC hP hA.M hS _ (wM_open) (j := k) (by omega) (by omega) (by decide) dX4_init_127 wpM_open (fun H locs hP hS => ?_)
            refine lv_iinc (v := nI (k + 1)) (lv' := [(2, .int (nI (k + 1))), (0, .ref (a 0))]) hx hb dX4_init_128 hl (k := 0) rfl (nI_add _ _) (by decide) rfl (fun ls hl => ?_)
            refine lv_goto (tgt := 92) hx hb dX4_init_131 (by decide) ?_
            exact ih (k + 1) (by omega) (by omega) H locs (P_eq (mS_step (by first | rw [if_pos (by omega)] | rw [if_neg (by omega)])) hP) hS ls (lv_sub hl [0, 1] rfl)
          · skip
            refine k_ic (x := 1) hx hb dX4_init_122 (by decide) ?_
            refine lv_goto (tgt := 127) hx hb dX4_init_123 (by decide) ?_
            refine k_zast hx hb hC hP hA.M hS _ (wM_open) (j := k) (by omega) (by omega) (by decide) dX4_init_127 wpM_open (fun H locs hP hS => ?_)
            refine lv_iinc (v := nI (k + 1)) (lv' := [(2, .int (nI (k + 1))), (0, .ref (a 0))]) hx hb dX4_init_128 hl (k := 0) rfl (nI_add _ _) (by decide) rfl (fun ls hl => ?_)
            refine lv_goto (tgt := 92) hx hb dX4_init_131 (by decide) ?_
            exact ih (k + 1) (by omega) (by omega) H locs (P_eq (mS_step (by first | rw [if_pos (by omega)] | rw [if_neg (by omega)])) hP) hS ls (lv_sub hl [0, 1] rfl)
    exact loop (n + 1) 0 (by omega) (by omega) H locs hP hS ls (lv_sub hl [0, 1] rfl)
  refine lv_aload_n hx hb dX4_init_62 rfl (lv_at hl 0 rfl) ?_
  refine lv_iload_n hx hb dX4_init_63 rfl (lv_at hl 1 rfl) ?_
  refine k_ic (x := 1) hx hb dX4_init_64 (by decide) ?_
  have n3 : (x < nI 1 ∨ nI 6 < x) → n = 3 := fun q => by
    rcases hn with ⟨h1, h2, h3⟩ | ⟨-, h1⟩
    · exfalso; rw [h1] at q; rcases q with q | q; (have := (nI_ltI (by omega) (by omega)).mp q); omega; (have := (nI_ltI (by omega) (by omega)).mp q); omega
    · exact h1
  refine lv_icmp_lt (tgt := 74) hx hb dX4_init_65 (by decide) (fun c65 => ?_) (fun c65 => ?_)
  · refine k_ic (x := 3) hx hb dX4_init_74 (by decide) ?_
    refine lv_goto (tgt := 79) hx hb dX4_init_75 (by decide) ?_
    refine k_as (x := n) (by rw [n3 (Or.inl c65)]) ?_
    exact rest ls hl
  · refine lv_iload_n hx hb dX4_init_68 rfl (lv_at hl 1 rfl) ?_
    refine k_bi (x := 6) hx hb dX4_init_69 (by decide) ?_
    refine lv_icmp_le (tgt := 78) hx hb dX4_init_71 (by decide) (fun c71 => ?_) (fun c71 => ?_)
    · refine lv_iload_n hx hb dX4_init_78 rfl (lv_at hl 1 rfl) ?_
      refine k_as (x := n) (hn.elim (fun q => q.1) (fun q => (q.1.elim c65 (fun z => absurd c71 (Int32.not_le.mpr z))).elim)) ?_
      exact rest ls hl
    · refine k_ic (x := 3) hx hb dX4_init_74 (by decide) ?_
      refine lv_goto (tgt := 79) hx hb dX4_init_75 (by decide) ?_
      refine k_as (x := n) (by rw [n3 (Or.inr (Int32.not_le.mp c71))]) ?_
      exact rest ls hl
