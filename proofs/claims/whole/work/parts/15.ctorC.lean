/-! THE CLASS'S CONSTRUCTOR -/
def iS (n c : Nat) : CS := fun code _ k => if code = 0 then (if k < c then k else 0) else if code = 1 then n else if code = 8 then 1 else 0
def bI (g : GG) (a : Nat → Nat) (n f c j : Nat) : va_E := if j = 3 then .inl (gN g, n, .inr (.inr (.inr (.inr (fun k => if k < f then some (a (7 * k + 5)) else none))))) else bE g a n (iS n c) j
def gE (g : GG) (a : Nat → Nat) (n f c j : Nat) : va_E := if j < 5 then bI g a n f c j else nE g a (iS n c) ((j - 5) / 7) ((j - 5) % 7)
def wG (g : GG) (a : Nat → Nat) (n i f c : Nat) : va_W := (List.range (5 + 7 * i)).map (fun j => (a j, gE g a n f c j))
theorem wG_at {g : GG} {a : Nat → Nat} {n i f c j : Nat} (h : j < 5 + 7 * i) : (wG g a n i f c)[j]? = some (a j, gE g a n f c j) := by simp [wG, h]
theorem wG_obj {g : GG} {a : Nat → Nat} {n i f c : Nat} : (wG g a n i f c)[0]? = some (a 0, .inr (3, [.ref (a 3), .ref (a 4), .int (nI n), .ref (a 1), .ref (a 2), .int (nI 0)])) := by rw [wG_at (by omega)]; rfl
theorem wG_nodes {g : GG} {a : Nat → Nat} {n i f c : Nat} : (wG g a n i f c)[3]? = some (a 3, .inl (gN g, n, .inr (.inr (.inr (.inr (fun k => if k < f then some (a (7 * k + 5)) else none)))))) := by rw [wG_at (by omega)]; rfl
theorem wG_chain {g : GG} {a : Nat → Nat} {n i f c : Nat} : (wG g a n i f c)[4]? = some (a 4, .inl (gI g, n, .inl (fun k => nI (iS n c 0 0 k)))) := by rw [wG_at (by omega)]; rfl
theorem wG_node {g : GG} {a : Nat → Nat} {n i f c k : Nat} (h : k < i) : (wG g a n i f c)[7 * k + 5]? = some (a (7 * k + 5), .inr (1, [.ref (a (7 * k + 6)), .ref (a (7 * k + 7)), .int (nI 0), .int (nI 0), .int (nI 0)])) := by
  rw [wG_at (by omega)]
  have h1 : ¬ (7 * k + 5 < 5) := by omega
  have h2 : (7 * k + 5 - 5) / 7 = k := by omega
  have h3 : (7 * k + 5 - 5) % 7 = 0 := by omega
  simp only [gE, h1, if_false, h2, h3]; rfl
theorem wG_set {g : GG} {a : Nat → Nat} {n i f c f' c' j : Nat} {e : va_E} (hs : gE g a n f' c' j = e) (ho : ∀ j', j' ≠ j → gE g a n f' c' j' = gE g a n f c j') : (wG g a n i f c).set j (a j, e) = wG g a n i f' c' := by
  apply List.ext_getElem?
  intro k
  rw [List.getElem?_set]
  by_cases hk : j = k
  · subst hk
    by_cases hj : j < 5 + 7 * i
    · simp [wG, hj, hs]
    · simp [wG, hj]
  · simp only [hk, if_false]
    by_cases hj : k < 5 + 7 * i
    · simp [wG, hj, ho k (Ne.symm hk)]
    · simp [wG, hj]
theorem wG_pn {g : GG} {a : Nat → Nat} {n i f c : Nat} : (wG g a n i f c).set 3 (a 3, .inl (gN g, n, .inr (.inr (.inr (.inr (va_up (fun k => if k < f then some (a (7 * k + 5)) else none) f (some (a (7 * f + 5))))))))) = wG g a n i (f + 1) c := by
  refine wG_set ?_ ?_
  · have e : (fun k => if k < f + 1 then some (a (7 * k + 5)) else none) = va_up (fun k => if k < f then some (a (7 * k + 5)) else none) f (some (a (7 * f + 5))) := by
      funext k
      by_cases h1 : k = f
      · subst h1; simp [va_up]
      · by_cases h2 : k < f
        · simp [va_up, h1, h2, show k < f + 1 by omega]
        · simp [va_up, h1, h2, show ¬ k < f + 1 by omega]
    show bI g a n (f + 1) c 3 = _
    rw [← e]; rfl
  · intro j' hne; simp only [gE, bI, hne, if_false]
theorem iS_c {n c c' code i k : Nat} (h : code ≠ 0) : iS n c code i k = iS n c' code i k := by simp [iS, h]
theorem nE_iS {g : GG} {a : Nat → Nat} {n c c' i r : Nat} : nE g a (iS n c) i r = nE g a (iS n c') i r := by unfold nE; split <;> simp [iS]
theorem wG_pc {g : GG} {a : Nat → Nat} {n i f c : Nat} : (wG g a n i f c).set 4 (a 4, .inl (gI g, n, .inl (upd (fun k => nI (iS n c 0 0 k)) c (nI c)))) = wG g a n i f (c + 1) := by
  refine wG_set ?_ ?_
  · have e : (fun k => nI (iS n (c + 1) 0 0 k)) = upd (fun k => nI (iS n c 0 0 k)) c (nI c) := by
      funext k
      by_cases h1 : k = c
      · subst h1; simp [upd, iS]
      · by_cases h2 : k < c
        · simp [upd, iS, h1, h2, show k < c + 1 by omega]
        · simp [upd, iS, h1, h2, show ¬ k < c + 1 by omega]
    show bE g a n (iS n (c + 1)) 4 = _
    rw [← e]; rfl
  · intro j' hne
    by_cases h5 : j' < 5
    · rcases (show j' = 0 ∨ j' = 1 ∨ j' = 2 ∨ j' = 3 by omega) with rfl | rfl | rfl | rfl <;> simp [gE, bI, bE, iS]
    · simp only [gE, h5, if_false]; exact nE_iS
theorem wG_end {g : GG} {a : Nat → Nat} {n : Nat} : wG g a n n n n = wC g a n (iS n n) := by
  unfold wG wC
  apply List.map_congr_left
  intro j hj
  congr 1
  by_cases h5 : j < 5
  · rcases (show j = 0 ∨ j = 1 ∨ j = 2 ∨ j = 3 ∨ j = 4 by omega) with rfl | rfl | rfl | rfl | rfl <;> rfl
  · simp only [gE, cE, h5, if_false]
def ext (a : Nat → Nat) (N : Nat) (l : List Nat) : Nat → Nat := fun j => if j < N then a j else l.getD (j - N) 0
theorem wG_app {g : GG} {a : Nat → Nat} {n i f c d v k q r q2 r2 : Nat} (hf : f ≤ i) : wG g a n i f c ++ nC g d v k q r q2 r2 = wG g (ext a (5 + 7 * i) [d, v, k, q, r, q2, r2]) n (i + 1) f c := by
  have e : 5 + 7 * (i + 1) = (5 + 7 * i) + 7 := by omega
  have ha : ∀ x, x < 5 + 7 * i → ext a (5 + 7 * i) [d, v, k, q, r, q2, r2] x = a x := fun x hx => if_pos hx
  have hb : ∀ x, ext a (5 + 7 * i) [d, v, k, q, r, q2, r2] (5 + 7 * i + x) = [d, v, k, q, r, q2, r2].getD x 0 := fun x => by
    unfold ext; rw [if_neg (by omega), Nat.add_sub_cancel_left]
  unfold wG
  rw [e, show List.range (5 + 7 * i + 7) = List.range (5 + 7 * i) ++ (List.range 7).map (fun x => 5 + 7 * i + x) from List.range_add, List.map_append]
  congr 1
  · apply List.map_congr_left
    intro j hj
    have hj := List.mem_range.mp hj
    rw [ha j hj]
    congr 1
    by_cases h5 : j < 5
    · simp only [gE, h5, if_true]
      rcases (show j = 0 ∨ j = 1 ∨ j = 2 ∨ j = 3 ∨ j = 4 by omega) with rfl | rfl | rfl | rfl | rfl
      · simp only [bI, bE, ha 1 (by omega), ha 2 (by omega), ha 3 (by omega), ha 4 (by omega)]; rfl
      · rfl
      · rfl
      · simp only [bI, if_true]
        congr; funext k'
        by_cases hk : k' < f
        · simp only [hk, if_true]; rw [ha _ (by omega)]
        · simp only [hk, if_false]
      · rfl
    · simp only [gE, h5, if_false]
      have hi : (j - 5) / 7 < i := by omega
      generalize (j - 5) / 7 = i' at hi
      unfold nE
      split <;> simp only [ha (7 * i' + 6) (by omega), ha (7 * i' + 7) (by omega), ha (7 * i' + 8) (by omega), ha (7 * i' + 9) (by omega), ha (7 * i' + 10) (by omega), ha (7 * i' + 11) (by omega)]
  · have hc : ∀ x, x < 7 → gE g (ext a (5 + 7 * i) [d, v, k, q, r, q2, r2]) n f c (5 + 7 * i + x) = nE g (ext a (5 + 7 * i) [d, v, k, q, r, q2, r2]) (iS n c) i x := fun x hx => by
      have h1 : ¬ (5 + 7 * i + x < 5) := by omega
      have h2 : (5 + 7 * i + x - 5) / 7 = i := by omega
      have h3 : (5 + 7 * i + x - 5) % 7 = x := by omega
      simp only [gE, h1, if_false, h2, h3]
    have m1 : ext a (5 + 7 * i) [d, v, k, q, r, q2, r2] (7 * i + 6) = v := by rw [show 7 * i + 6 = 5 + 7 * i + 1 by omega, hb]; rfl
    have m2 : ext a (5 + 7 * i) [d, v, k, q, r, q2, r2] (7 * i + 7) = k := by rw [show 7 * i + 7 = 5 + 7 * i + 2 by omega, hb]; rfl
    have m3 : ext a (5 + 7 * i) [d, v, k, q, r, q2, r2] (7 * i + 8) = q := by rw [show 7 * i + 8 = 5 + 7 * i + 3 by omega, hb]; rfl
    have m4 : ext a (5 + 7 * i) [d, v, k, q, r, q2, r2] (7 * i + 9) = r := by rw [show 7 * i + 9 = 5 + 7 * i + 4 by omega, hb]; rfl
    have m5 : ext a (5 + 7 * i) [d, v, k, q, r, q2, r2] (7 * i + 10) = q2 := by rw [show 7 * i + 10 = 5 + 7 * i + 5 by omega, hb]; rfl
    have m6 : ext a (5 + 7 * i) [d, v, k, q, r, q2, r2] (7 * i + 11) = r2 := by rw [show 7 * i + 11 = 5 + 7 * i + 6 by omega, hb]; rfl
    rw [List.map_map]
    show _ = [_, _, _, _, _, _, _]
    simp only [Function.comp, hb, hc 0 (by omega), hc 1 (by omega), hc 2 (by omega), hc 3 (by omega), hc 4 (by omega), hc 5 (by omega), hc 6 (by omega)]
    simp only [nE, m1, m2, m3, m4, m5, m6]
    rfl
theorem Ap.of {A : Nat → Prop} {g : GG} {a : Nat → Nat} {n : Nat} {s : CS} (h : va_D A (wC g a n s)) : Ap A a (5 + 7 * n) :=
  ⟨fun i j hi hj e => h.1 i j _ _ (wC_at hi) (wC_at hj) e, fun k hk => h.2 k _ (wC_at hk)⟩
theorem Ap.ofM {A : Nat → Prop} {g : GG} {a : Nat → Nat} {s : CS} (h : va_D A (wM g a s)) : Ap A a 8 := by
  have at' : ∀ k, k < 8 → ∃ e, (wM g a s)[k]? = some (a k, e) := by
    intro k hk
    rcases (show k = 0 ∨ k = 1 ∨ k = 2 ∨ k = 3 ∨ k = 4 ∨ k = 5 ∨ k = 6 ∨ k = 7 by omega) with rfl | rfl | rfl | rfl | rfl | rfl | rfl | rfl <;> exact ⟨_, rfl⟩
  refine ⟨fun i j hi hj e => ?_, fun k hk => ?_⟩
  · obtain ⟨x, hx⟩ := at' i hi
    obtain ⟨y, hy⟩ := at' j hj
    exact h.1 i j _ _ hx hy e
  · obtain ⟨x, hx⟩ := at' k hk
    exact h.2 k _ hx
set_option maxHeartbeats 4000000 in
set_option maxRecDepth 100000 in
/-- SplicedChain(int) -/
theorem c_X3_init (l : Launch) (g : GG) (b : Nat) (sz : Nat) {n : Nat} {x : Int32} (hn : (x = nI n ∧ 1 ≤ n ∧ n ≤ 6) ∨ ((x < nI 1 ∨ nI 6 < x) ∧ n = 3)) : Met l yX3_init wsX3_init ({ frames := 4, cells := 46, slots := 706, locals := 72 }) (pI g [.ref b, .int x] [(b, .inr (3, [.null, .null, .int (nI 0), .null, .null, .int (nI 0)]))] sz) (qN (S := { a : Nat → Nat // a 0 = b }) g (fun u => wC g u.1 n (iS n n)) (va_A [(b, .inr (3, [.null, .null, .int (nI 0), .null, .null, .int (nI 0)]))] sz)) 46 706 (va_A [(b, .inr (3, [.null, .null, .int (nI 0), .null, .null, .int (nI 0)]))] sz) := by
  refine k_startI (cc := cX3_init) (maxL := 4) (by decide) rfl (Nat.le_of_ble_eq_true rfl) ?_
  intro pr en s0 m args below meth cd hx hb hml hr hlk hts hown hin hC hz hP ls hl
  subst hz
  have hD : va_D (va_A [(b, .inr (3, [.null, .null, .int (nI 0), .null, .null, .int (nI 0)]))] s0.heap.size) [(b, .inr (3, [.null, .null, .int (nI 0), .null, .null, .int (nI 0)]))] := ⟨fun i j p q h1 h2 _ => by (have := (List.getElem?_eq_some_iff.mp h1).1); (have := (List.getElem?_eq_some_iff.mp h2).1); simp at *; omega, fun _ _ hk => va_A.in hk⟩
  generalize hAe : va_A [(b, .inr (3, [.null, .null, .int (nI 0), .null, .null, .int (nI 0)]))] s0.heap.size = A at hD ⊢
  have hA : ∀ q : Nat, s0.heap.size ≤ q → A q := fun q h => by rw [← hAe]; exact Or.inr h
  have hS : va_S A s0.heap s0.heap [] := va_S.rf
  have hfx : CallFix pr m cd cX3_init 4 s0 args wsX3_init RX3 := ⟨hx, hb, hml, hown, hts⟩
  have hu : ∀ w ∈ wsX30, w.before args s0 = true := fun w h => hts w ((by decide +kernel : ∀ w ∈ wsX30, w ∈ wsX3_init) w h)
  have hn6 : 1 ≤ n ∧ n ≤ 6 := by rcases hn with q | q; exact q.2; omega
  have hl : lv_has ls 4 [(0, .ref b), (1, .int x)] := hl
  refine lv_aload_n hx hb dX3_init_0 rfl (lv_at hl 0 rfl) ?_
  refine W.objInit hx hb hown (hts (.methodLink RX3 1 objectInit) (by decide +kernel)) (hts (.instanceMethod objectInit) (by decide +kernel)) (hts (.code objectInit ⟨#[0xb1]⟩ 1 none) (by decide +kernel)) rfl (by rw [hml]; exact hl.1) rfl dX3_init_1 (by decide) (Nat.le_of_ble_eq_true rfl) ?_
  refine W.eq (g2 := F0 m 4 ls []) rfl ?_
  refine lv_aload_n hx hb dX3_init_4 rfl (lv_at hl 0 rfl) ?_
  refine k_bi (x := 41) hx hb dX3_init_5 (by decide) ?_
  refine k_newI hx hb (hts (.arrayClass .int) (by decide +kernel)) hC hP hD hS hA (by decide) (by decide) (by decide) dX3_init_7 (fun q1 H hP hD hS => ?_)
  have hP : va_P g.1 vwCl [(b, .inr (3, [.null, .null, .int (nI 0), .null, .null, .int (nI 0)])), (q1, .inl (gI g, 41, .inl (fun _ => nI 0)))] H := hP
  have hD : va_D A [(b, .inr (3, [.null, .null, .int (nI 0), .null, .null, .int (nI 0)])), (q1, .inl (gI g, 41, .inl (fun _ => nI 0)))] := hD
  refine va_putF (D := g.1) (ci := 3) (v := .ref q1) (ty := .array .int) (C := RX3) (T := TX3) (N := 6) hx hb hu (fun _ h => h) tyX3 tyX3_ok nmX3 hown hC.1 hP hD hS 0 rfl rfl 3 (by decide) (hts (.fieldLink RX3 9 "SplicedChain" "keyOfUpdate" "[I") (by decide +kernel)) (fun _ h9 => h9) rfl hin rfl (by decide +kernel) rfl rfl (Nat.le_of_ble_eq_true rfl) dX3_init_9 (fun H locs hP hD hS => ?_)
  have hP : va_P g.1 vwCl [(b, .inr (3, [.null, .null, .int (nI 0), .ref q1, .null, .int (nI 0)])), (q1, .inl (gI g, 41, .inl (fun _ => nI 0)))] H := hP
  have hD : va_D A [(b, .inr (3, [.null, .null, .int (nI 0), .ref q1, .null, .int (nI 0)])), (q1, .inl (gI g, 41, .inl (fun _ => nI 0)))] := hD
  refine lv_aload_n hx hb dX3_init_12 rfl (lv_at hl 0 rfl) ?_
  refine k_bi (x := 41) hx hb dX3_init_13 (by decide) ?_
  refine k_newI hx hb (hts (.arrayClass .int) (by decide +kernel)) hC hP hD hS hA (by decide) (by decide) (by decide) dX3_init_15 (fun q2 H hP hD hS => ?_)
  have hP : va_P g.1 vwCl [(b, .inr (3, [.null, .null, .int (nI 0), .ref q1, .null, .int (nI 0)])), (q1, .inl (gI g, 41, .inl (fun _ => nI 0))), (q2, .inl (gI g, 41, .inl (fun _ => nI 0)))] H := hP
  have hD : va_D A [(b, .inr (3, [.null, .null, .int (nI 0), .ref q1, .null, .int (nI 0)])), (q1, .inl (gI g, 41, .inl (fun _ => nI 0))), (q2, .inl (gI g, 41, .inl (fun _ => nI 0)))] := hD
  refine va_putF (D := g.1) (ci := 3) (v := .ref q2) (ty := .array .int) (C := RX3) (T := TX3) (N := 6) hx hb hu (fun _ h => h) tyX3 tyX3_ok nmX3 hown hC.1 hP hD hS 0 rfl rfl 4 (by decide) (hts (.fieldLink RX3 13 "SplicedChain" "valueOfUpdate" "[I") (by decide +kernel)) (fun _ h9 => h9) rfl hin rfl (by decide +kernel) rfl rfl (Nat.le_of_ble_eq_true rfl) dX3_init_17 (fun H locs hP hD hS => ?_)
  have hP : va_P g.1 vwCl [(b, .inr (3, [.null, .null, .int (nI 0), .ref q1, .ref q2, .int (nI 0)])), (q1, .inl (gI g, 41, .inl (fun _ => nI 0))), (q2, .inl (gI g, 41, .inl (fun _ => nI 0)))] H := hP
  have hD : va_D A [(b, .inr (3, [.null, .null, .int (nI 0), .ref q1, .ref q2, .int (nI 0)])), (q1, .inl (gI g, 41, .inl (fun _ => nI 0))), (q2, .inl (gI g, 41, .inl (fun _ => nI 0)))] := hD
  refine lv_aload_n hx hb dX3_init_20 rfl (lv_at hl 0 rfl) ?_
  refine k_ic (x := 0) hx hb dX3_init_21 (by decide) ?_
  refine va_put (D := g.1) (ci := 3) (v := .int (nI 0)) (ty := .int) (C := RX3) (T := TX3) (N := 6) hx hb hu (fun _ h => h) tyX3 tyX3_ok nmX3 hown hC.1 hP hD hS 0 rfl rfl 5 (by decide) (hts (.fieldLink RX3 16 "SplicedChain" "replies" "I") (by decide +kernel)) (fun _ h9 => h9) rfl (by decide +kernel) rfl rfl (Nat.le_of_ble_eq_true rfl) dX3_init_22 (fun H locs hP hD hS => ?_)
  have hP : va_P g.1 vwCl [(b, .inr (3, [.null, .null, .int (nI 0), .ref q1, .ref q2, .int (nI 0)])), (q1, .inl (gI g, 41, .inl (fun _ => nI 0))), (q2, .inl (gI g, 41, .inl (fun _ => nI 0)))] H := hP
  have hD : va_D A [(b, .inr (3, [.null, .null, .int (nI 0), .ref q1, .ref q2, .int (nI 0)])), (q1, .inl (gI g, 41, .inl (fun _ => nI 0))), (q2, .inl (gI g, 41, .inl (fun _ => nI 0)))] := hD
  have loop : ∀ (d i : Nat), n + 1 ≤ i + d → i ≤ n → ∀ (a : Nat → Nat), a 0 = b → ∀ (H : Heap) (locs : List Loc), va_P g.1 vwCl (wG g a n i i i) H → va_D A (wG g a n i i i) → va_S A s0.heap H locs → ∀ ls : Array Slot, lv_has ls 4 [(3, .int (nI i)), (2, .int (nI n)), (0, .ref b)] → W pr l en ({ frames := 4, cells := 46, slots := 706, locals := 72 }) s0 m args below meth cd H locs (4 + 7 * i) (82 + 2 * n + 102 * i) (MQ below (qN (S := { a : Nat → Nat // a 0 = b }) g (fun u => wC g u.1 n (iS n n)) A) args s0 46 706 A) (F0 m 64 ls []) := by
    intro d
    induction d with
    | zero => intro i h1 h2; exact absurd h1 (by omega)
    | succ d ih =>
      intro i h1 h2 a ha0 H locs hP hD hS ls hl
      refine lv_iload_n hx hb dX3_init_64 rfl (lv_at hl 0 rfl) ?_
      refine lv_iload_n hx hb dX3_init_65 rfl (lv_at hl 1 rfl) ?_
      refine k_icmp_ge (tgt := 95) hx hb dX3_init_66 (by decide) (by omega) (by omega) (fun c66 => ?_) (fun c66 => ?_)
      · have ei : i = n := by omega
        subst ei
        refine W.widen (k := 46) (n := 706) (by omega) (by omega) ?_
        rw [wG_end] at hP hD
        exact k_vretN (S := { a : Nat → Nat // a 0 = b }) ⟨a, ha0⟩ hx hb hr hlk hP hD hS dX3_init_95
      · have hl : lv_has ls 4 [(3, .int (nI i)), (2, .int (nI n)), (0, .ref (a 0))] := by rw [ha0]; exact hl
        refine lv_aload_n hx hb dX3_init_69 rfl (lv_at hl 2 rfl) ?_
        refine va_get (D := g.1) (C := RX3) (T := TX3) (N := 6) (ci := 3) hx hb hu (fun _ h => h) hown hC.1 hP _ (wG_obj) rfl 0 (by decide) (hts (.fieldLink RX3 22 "SplicedChain" "nodes" "[LSplicedChain$Node;") (by decide +kernel)) (fun _ h9 => h9) rfl dX3_init_70 ?_
        refine lv_iload_n hx hb dX3_init_73 rfl (lv_at hl 0 rfl) ?_
        refine va_new (ci := 1) (fs := [.null, .null, .int (nI 0), .int (nI 0), .int (nI 0)]) (C := RX1) (T := TX1) (N := 5) hx hb hts (by decide +kernel) tyX1 tyX1_ok hown (hts (.classLink RX3 20 RX1) (by decide +kernel)) (hts (.instantiable RX1 5) (by decide +kernel)) (hts (.initialized RX1) (by decide +kernel)) hC.1 hP hD hS hA rfl (fun j hj => by rcases (show j = 0 ∨ j = 1 ∨ j = 2 ∨ j = 3 ∨ j = 4 by omega) with rfl | rfl | rfl | rfl | rfl <;> rfl) (by show 4 + 7 * i + 1 ≤ 46; omega) (by show 82 + 2 * n + 102 * i + 5 ≤ 706; omega) dX3_init_74 (fun q H hP hD hS => ?_)
        refine lv_dup hx hb dX3_init_77 rfl ?_
        refine kI_N (wr := wG g a n i i i) (As := []) (rest := [.ref q, .int (nI i), .ref (a 3)]) hfx (c_X1_init l g q H.size) ⟨va_cnB 0 hts gX3_init_X1_init_n32 rfl rfl rfl (hC.2.2.1 (RX3, 32, yX1_init) (by decide +kernel)) (hts (.initialized RX1) (by decide +kernel)) (by decide +kernel) ⟨by decide, by decide⟩, rfl, hts (.instanceMethod yX1_init) (by decide +kernel)⟩ hC hP hD hS hA rfl hl.1 rfl (Nat.le_of_ble_eq_true rfl) dX3_init_78 ⟨by show 4 + 7 * i + 1 + 6 ≤ 46; omega, by show 82 + 2 * n + 102 * i + 5 + 97 ≤ 706; omega⟩ (fun u H locs hP hD hS => ?_)
        obtain ⟨v, k, q1, r1, q2, r2⟩ := u
        have hP := P_eq (wG_app (Nat.le_refl i)) hP
        have hD : va_D A (wG g (ext a (5 + 7 * i) [q, v, k, q1, r1, q2, r2]) n (i + 1) i i) := wG_app (Nat.le_refl i) ▸ hD
        have x0 : ext a (5 + 7 * i) [q, v, k, q1, r1, q2, r2] 0 = a 0 := if_pos (by omega)
        have x3 : ext a (5 + 7 * i) [q, v, k, q1, r1, q2, r2] 3 = a 3 := if_pos (by omega)
        have x5 : ext a (5 + 7 * i) [q, v, k, q1, r1, q2, r2] (7 * i + 5) = q := by unfold ext; rw [if_neg (by omega), show 7 * i + 5 - (5 + 7 * i) = 0 by omega]; rfl
        generalize ext a (5 + 7 * i) [q, v, k, q1, r1, q2, r2] = a2 at hP hD x0 x3 x5
        rw [← x3, ← x5]
        refine va_astq hx hb hC.1 hP hD hS _ 2 _ 1 wG_nodes (r := (RX1, TX1, 5)) rfl (wG_node (k := i) (by omega)) rfl (vp_in_nI (by omega) (by omega)) dX3_init_81 (fun H locs hP hD hS => ?_)
        rw [nI_clamp (by omega)] at hP hD
        have hP := P_eq wG_pn hP
        have hD : va_D A (wG g a2 n (i + 1) (i + 1) i) := wG_pn ▸ hD
        rw [← x0] at hl
        refine lv_aload_n hx hb dX3_init_82 rfl (lv_at hl 2 rfl) ?_
        refine va_get (D := g.1) (C := RX3) (T := TX3) (N := 6) (ci := 3) hx hb hu (fun _ h => h) hown hC.1 hP _ (wG_obj) rfl 1 (by decide) (hts (.fieldLink RX3 26 "SplicedChain" "chain" "[I") (by decide +kernel)) (fun _ h9 => h9) rfl dX3_init_83 ?_
        refine lv_iload_n hx hb dX3_init_86 rfl (lv_at hl 0 rfl) ?_
        refine lv_iload_n hx hb dX3_init_87 rfl (lv_at hl 0 rfl) ?_
        refine va_iast hx hb hC.1 hP hD hS _ 0 wG_chain rfl (vp_in_nI (by omega) (by omega)) dX3_init_88 (fun H locs hP hD hS => ?_)
        rw [nI_clamp (by omega)] at hP hD
        have hP := P_eq wG_pc hP
        have hD : va_D A (wG g a2 n (i + 1) (i + 1) (i + 1)) := wG_pc ▸ hD
        refine lv_iinc (v := nI (i + 1)) (lv' := [(3, .int (nI (i + 1))), (2, .int (nI n)), (0, .ref (a2 0))]) hx hb dX3_init_89 hl (k := 0) rfl (nI_add _ _) (by decide) rfl (fun ls hl => ?_)
        refine lv_goto (tgt := 64) hx hb dX3_init_92 (by decide) ?_
        refine W.widen (k := 4 + 7 * (i + 1)) (n := 82 + 2 * n + 102 * (i + 1)) (by omega) (by omega) ?_
        exact ih (i + 1) (by omega) (by omega) a2 (x0.trans ha0) H locs hP hD hS ls (by rw [x0.trans ha0] at hl; exact hl)
  have rest : ∀ ls : Array Slot, lv_has ls 4 [(0, .ref b), (1, .int x)] → W pr l en ({ frames := 4, cells := 46, slots := 706, locals := 72 }) s0 m args below meth cd H locs (0 + 1 + 1) (0 + 41 + 41) (MQ below (qN (S := { a : Nat → Nat // a 0 = b }) g (fun u => wC g u.1 n (iS n n)) A) args s0 46 706 A) (F0 m 41 ls [.int (nI n)]) := by
    intro ls hl
    refine lv_istore_n (lv' := [(2, .int (nI n)), (0, .ref b), (1, .int x)]) hx hb dX3_init_41 rfl hl (by decide) rfl (fun ls hl => ?_)
    refine lv_aload_n hx hb dX3_init_42 rfl (lv_at hl 1 rfl) ?_
    refine lv_iload_n hx hb dX3_init_43 rfl (lv_at hl 0 rfl) ?_
    refine va_newq (C := RX1) (N' := n) hx hb hown (hts (.classLink RX3 20 RX1) (by decide +kernel)) hC.2.2.2 hC.1 hP hD hS hA (nI_pos (by omega)) (nI_clamp (by omega)) (by omega) (by decide) (by show 0 + 41 + 41 + n ≤ 706; omega) dX3_init_44 (fun q3 cA H hK1 hP hD hS => ?_)
    have ec : cA = gN g := by
      obtain ⟨k1, p1, -, -, -, h4⟩ := (hK1.2 4 (cA, .object RX1) rfl).2
      obtain ⟨k2, p2, -, -, -, h8⟩ := (hC.1.2 2 (gN g, .object RX1) rfl).2
      exact Option.some.inj (h4.symm.trans h8)
    subst ec
    refine va_putF (D := g.1) (ci := 3) (v := .ref q3) (ty := .array (.object "SplicedChain$Node")) (C := RX3) (T := TX3) (N := 6) hx hb hu (fun _ h => h) tyX3 tyX3_ok nmX3 hown hC.1 hP hD hS 0 rfl rfl 0 (by decide) (hts (.fieldLink RX3 22 "SplicedChain" "nodes" "[LSplicedChain$Node;") (by decide +kernel)) (fun _ h9 => h9) rfl hin rfl (by decide +kernel) rfl rfl (Nat.le_of_ble_eq_true rfl) dX3_init_47 (fun H locs hP hD hS => ?_)
    have hP : va_P g.1 vwCl [(b, .inr (3, [.ref q3, .null, .int (nI 0), .ref q1, .ref q2, .int (nI 0)])), (q1, .inl (gI g, 41, .inl (fun _ => nI 0))), (q2, .inl (gI g, 41, .inl (fun _ => nI 0))), (q3, .inl (gN g, n, .inr (.inr (.inr (.inr (fun _ => none))))))] H := hP
    have hD : va_D A [(b, .inr (3, [.ref q3, .null, .int (nI 0), .ref q1, .ref q2, .int (nI 0)])), (q1, .inl (gI g, 41, .inl (fun _ => nI 0))), (q2, .inl (gI g, 41, .inl (fun _ => nI 0))), (q3, .inl (gN g, n, .inr (.inr (.inr (.inr (fun _ => none))))))] := hD
    refine lv_aload_n hx hb dX3_init_50 rfl (lv_at hl 1 rfl) ?_
    refine lv_iload_n hx hb dX3_init_51 rfl (lv_at hl 0 rfl) ?_
    refine k_newI hx hb (hts (.arrayClass .int) (by decide +kernel)) hC hP hD hS hA (by omega) (by decide) (by show 0 + 41 + 41 + n + n ≤ 706; omega) dX3_init_52 (fun q4 H hP hD hS => ?_)
    refine va_putF (D := g.1) (ci := 3) (v := .ref q4) (ty := .array .int) (C := RX3) (T := TX3) (N := 6) hx hb hu (fun _ h => h) tyX3 tyX3_ok nmX3 hown hC.1 hP hD hS 0 rfl rfl 1 (by decide) (hts (.fieldLink RX3 26 "SplicedChain" "chain" "[I") (by decide +kernel)) (fun _ h9 => h9) rfl hin rfl (by decide +kernel) rfl rfl (Nat.le_of_ble_eq_true rfl) dX3_init_54 (fun H locs hP hD hS => ?_)
    have hP : va_P g.1 vwCl [(b, .inr (3, [.ref q3, .ref q4, .int (nI 0), .ref q1, .ref q2, .int (nI 0)])), (q1, .inl (gI g, 41, .inl (fun _ => nI 0))), (q2, .inl (gI g, 41, .inl (fun _ => nI 0))), (q3, .inl (gN g, n, .inr (.inr (.inr (.inr (fun _ => none)))))), (q4, .inl (gI g, n, .inl (fun _ => nI 0)))] H := hP
    have hD : va_D A [(b, .inr (3, [.ref q3, .ref q4, .int (nI 0), .ref q1, .ref q2, .int (nI 0)])), (q1, .inl (gI g, 41, .inl (fun _ => nI 0))), (q2, .inl (gI g, 41, .inl (fun _ => nI 0))), (q3, .inl (gN g, n, .inr (.inr (.inr (.inr (fun _ => none)))))), (q4, .inl (gI g, n, .inl (fun _ => nI 0)))] := hD
    refine lv_aload_n hx hb dX3_init_57 rfl (lv_at hl 1 rfl) ?_
    refine lv_iload_n hx hb dX3_init_58 rfl (lv_at hl 0 rfl) ?_
    refine va_put (D := g.1) (ci := 3) (v := .int (nI n)) (ty := .int) (C := RX3) (T := TX3) (N := 6) hx hb hu (fun _ h => h) tyX3 tyX3_ok nmX3 hown hC.1 hP hD hS 0 rfl rfl 2 (by decide) (hts (.fieldLink RX3 29 "SplicedChain" "chainLength" "I") (by decide +kernel)) (fun _ h9 => h9) rfl (by decide +kernel) rfl rfl (Nat.le_of_ble_eq_true rfl) dX3_init_59 (fun H locs hP hD hS => ?_)
    have hP : va_P g.1 vwCl [(b, .inr (3, [.ref q3, .ref q4, .int (nI n), .ref q1, .ref q2, .int (nI 0)])), (q1, .inl (gI g, 41, .inl (fun _ => nI 0))), (q2, .inl (gI g, 41, .inl (fun _ => nI 0))), (q3, .inl (gN g, n, .inr (.inr (.inr (.inr (fun _ => none)))))), (q4, .inl (gI g, n, .inl (fun _ => nI 0)))] H := hP
    have hD : va_D A [(b, .inr (3, [.ref q3, .ref q4, .int (nI n), .ref q1, .ref q2, .int (nI 0)])), (q1, .inl (gI g, 41, .inl (fun _ => nI 0))), (q2, .inl (gI g, 41, .inl (fun _ => nI 0))), (q3, .inl (gN g, n, .inr (.inr (.inr (.inr (fun _ => none)))))), (q4, .inl (gI g, n, .inl (fun _ => nI 0)))] := hD
    refine k_ic (x := 0) hx hb dX3_init_62 (by decide) ?_
    refine lv_istore_n (lv' := [(3, .int (nI 0)), (2, .int (nI n)), (0, .ref b), (1, .int x)]) hx hb dX3_init_63 rfl hl (by decide) rfl (fun ls hl => ?_)
    have eW : [(b, .inr (3, [.ref q3, .ref q4, .int (nI n), .ref q1, .ref q2, .int (nI 0)])), (q1, .inl (gI g, 41, .inl (fun _ => nI 0))), (q2, .inl (gI g, 41, .inl (fun _ => nI 0))), (q3, .inl (gN g, n, .inr (.inr (.inr (.inr (fun _ => none)))))), (q4, .inl (gI g, n, .inl (fun _ => nI 0)))] = wG g (fun j => [b, q1, q2, q3, q4].getD j 0) n 0 0 0 := by
      simp [wG, List.range, List.range.loop, gE, bI, bE, iS]
    refine W.widen (k := 4 + 7 * 0) (n := 82 + 2 * n + 102 * 0) (by omega) (by omega) ?_
    exact loop (n + 1) 0 (by omega) (by omega) (fun j => [b, q1, q2, q3, q4].getD j 0) rfl H locs (P_eq eW hP) (eW ▸ hD) hS ls (lv_sub hl [0, 1, 2] rfl)
  refine lv_iload_n hx hb dX3_init_25 rfl (lv_at hl 1 rfl) ?_
  refine k_ic (x := 1) hx hb dX3_init_26 (by decide) ?_
  have n3 : (x < nI 1 ∨ nI 6 < x) → n = 3 := fun q => by
    rcases hn with ⟨h1, h2, h3⟩ | ⟨-, h1⟩
    · exfalso; rw [h1] at q; rcases q with q | q; (have := (nI_ltI (by omega) (by omega)).mp q); omega; (have := (nI_ltI (by omega) (by omega)).mp q); omega
    · exact h1
  refine lv_icmp_lt (tgt := 40) hx hb dX3_init_27 (by decide) (fun c27 => ?_) (fun c27 => ?_)
  · refine k_ic (x := 3) hx hb dX3_init_40 (by decide) ?_
    refine k_as (x := n) (by rw [n3 (Or.inl c27)]) ?_
    exact rest ls hl
  · refine lv_iload_n hx hb dX3_init_30 rfl (lv_at hl 1 rfl) ?_
    refine k_bi (x := 6) hx hb dX3_init_31 (by decide) ?_
    refine lv_icmp_gt (tgt := 40) hx hb dX3_init_33 (by decide) (fun c33 => ?_) (fun c33 => ?_)
    · refine k_ic (x := 3) hx hb dX3_init_40 (by decide) ?_
      refine k_as (x := n) (by rw [n3 (Or.inr c33)]) ?_
      exact rest ls hl
    · refine lv_iload_n hx hb dX3_init_36 rfl (lv_at hl 1 rfl) ?_
      refine lv_goto (tgt := 41) hx hb dX3_init_37 (by decide) ?_
      refine k_as (x := n) (hn.elim (fun q => q.1) (fun q => (q.1.elim c27 c33).elim)) ?_
      exact rest ls hl
