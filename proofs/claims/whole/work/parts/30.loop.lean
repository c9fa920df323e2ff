set_option maxHeartbeats 4000000 in
set_option maxRecDepth 100000 in
/-- the loop's test -/
theorem law_test {p : Program} {l : Launch} {e : Env} {s : State} {m : MethodId} {below : List Frame} {meth : Method} {c : Code} {b L : Nat} {xs : Nat → Int32} {g : GG} {sa a am : Nat → Nat} {o n : Nat} (C0 : LC p l s m c b L xs g sa a am o n) {i : Nat} {st t : CS} {f : Nat → Int64} {H : Heap} {locs : List Loc} {ls : Array Slot} (I0 : LI s b g a am o n i st t f H locs ls) (hi1 : 1 ≤ i) (hi : i ≤ L + 3) {cells slots : Nat} {Q : State → Prop} (kend : W p l e room_1 s m #[Value.ref b] below meth c H locs cells slots Q (F0 m 826 ls [])) (kgo : i + 3 ≤ L → W p l e room_1 s m #[Value.ref b] below meth c H locs cells slots Q (F0 m 42 ls [])) : W p l e room_1 s m #[Value.ref b] below meth c H locs cells slots Q (F0 m 33 ls []) := by
  obtain ⟨hx, hb, hml, hown, hts, hX, hbl, hL, hlt, hC, hT0, hN, hDj⟩ := C0
  obtain ⟨hR, hP, hM, hO, hS, hl⟩ := I0
  have hbA : ¬ A0 s b := Nat.not_le.mpr hbl
  refine lv_iload hx hb dL_law_33 (lv_at hl 4 rfl) ?_
  refine lv_aload_n hx hb dL_law_35 rfl (lv_at hl 0 rfl) ?_
  refine va_slen hx hb hX hbl hbA hS dL_law_36 ?_
  refine k_ic (x := 3) hx hb dL_law_37 (by decide) ?_
  by_cases h3 : 3 ≤ L
  · refine k_isub (x := L) (y := 3) hx hb h3 dL_law_38 ?_
    exact k_icmp_gt (tgt := 826) hx hb dL_law_39 (by decide) (by omega) (by omega) (fun _ => kend) (fun h => kgo (by omega))
  · refine lv_isub hx hb dL_law_38 ?_
    refine lv_icmp_gt (tgt := 826) hx hb dL_law_39 (by decide) (fun _ => kend) (fun h => ?_)
    have h0 : nI L - nI 3 < 0 := by
      rcases (show L = 0 ∨ L = 1 ∨ L = 2 by omega) with rfl | rfl | rfl <;> decide
    exact absurd (Int32.lt_of_lt_of_le h0 (nI_pos' (by omega))) h
set_option maxHeartbeats 4000000 in
set_option maxRecDepth 100000 in
/-- one run through the loop -/
theorem law_step {p : Program} {l : Launch} {e : Env} {s : State} {m : MethodId} {below : List Frame} {meth : Method} {c : Code} {b L : Nat} {xs : Nat → Int32} {g : GG} {sa a am : Nat → Nat} {o n : Nat} (C0 : LC p l s m c b L xs g sa a am o n) {i : Nat} {st t : CS} {f : Nat → Int64} {H : Heap} {locs : List Loc} {ls : Array Slot} (I0 : LI s b g a am o n i st t f H locs ls) (hi : i + 3 ≤ L) {cells slots : Nat} (hcl : cells + 1 ≤ 617831 ∧ slots + 6 ≤ 7242576) {Q : State → Prop}
    (kk : ∀ (st' t' : CS) (f' : Nat → Int64) (H' : Heap) (locs' : List Loc) (ls' : Array Slot), LI s b g a am o n i st' t' f' H' locs' ls' → W p l e room_1 s m #[Value.ref b] below meth c H' locs' (cells + 1) (slots + 6) Q (F0 m 820 ls' [])) : W p l e room_1 s m #[Value.ref b] below meth c H locs cells slots Q (F0 m 42 ls []) := by
  obtain ⟨hx, hb, hml, hown, hts, hX, hbl, hL, hlt, hC, hT0, hN, hDj⟩ := id C0
  obtain ⟨hR, hP, hM, hO, hS, hl⟩ := id I0
  have hbA : ¬ A0 s b := Nat.not_le.mpr hbl
  refine lv_aload_n hx hb dL_law_42 rfl (lv_at hl 0 rfl) ?_
  refine lv_iload hx hb dL_law_43 (lv_at hl 4 rfl) ?_
  refine k_sld hx hb hX hbl hbA hS (by omega) hL dL_law_45 ?_
  refine k_bi (x := 15) hx hb dL_law_46 (by decide) ?_
  refine lv_iand hx hb dL_law_48 ?_
  obtain ⟨j, hj, ej⟩ := pk_andE (xs i) (m := nI 15) 4 (by decide)
  rw [ej]
  have hj : j < 16 := hj
  rcases (show j = 0 ∨ j = 1 ∨ j = 2 ∨ j = 3 ∨ j = 4 ∨ j = 5 ∨ j = 6 ∨ j = 7 ∨ j = 8 ∨ j = 9 ∨ j = 10 ∨ j = 11 ∨ j = 12 ∨ j = 13 ∨ j = 14 ∨ j = 15 by omega) with rfl | rfl | rfl | rfl | rfl | rfl | rfl | rfl | rfl | rfl | rfl | rfl | rfl | rfl | rfl | rfl
  · exact lv_tableIn (tgt := 124) hx hb dL_law_49 (by decide) (by decide) rfl (by decide) (law_write C0 I0 hi hcl kk)
  · exact lv_tableIn (tgt := 192) hx hb dL_law_49 (by decide) (by decide) rfl (by decide) (law_read C0 I0 hi hcl kk)
  · exact lv_tableIn (tgt := 248) hx hb dL_law_49 (by decide) (by decide) rfl (by decide) (law_deliver C0 I0 hi hcl kk)
  · exact lv_tableIn (tgt := 304) hx hb dL_law_49 (by decide) (by decide) rfl (by decide) (law_acknowledge C0 I0 hi hcl kk)
  · exact lv_tableIn (tgt := 360) hx hb dL_law_49 (by decide) (by decide) rfl (by decide) (law_fail C0 I0 hi hcl kk)
  · exact lv_tableIn (tgt := 423) hx hb dL_law_49 (by decide) (by decide) rfl (by decide) (law_repair C0 I0 hi hcl kk)
  · exact lv_tableIn (tgt := 436) hx hb dL_law_49 (by decide) (by decide) rfl (by decide) (law_resync C0 I0 hi hcl kk)
  · exact lv_tableIn (tgt := 492) hx hb dL_law_49 (by decide) (by decide) rfl (by decide) (law_replied C0 I0 hi hcl kk)
  · exact lv_tableIn (tgt := 517) hx hb dL_law_49 (by decide) (by decide) rfl (by decide) (law_head C0 I0 hi hcl kk)
  · exact lv_tableIn (tgt := 530) hx hb dL_law_49 (by decide) (by decide) rfl (by decide) (law_tail C0 I0 hi hcl kk)
  · exact lv_tableIn (tgt := 543) hx hb dL_law_49 (by decide) (by decide) rfl (by decide) (law_valueAt C0 I0 hi hcl kk)
  · exact lv_tableIn (tgt := 611) hx hb dL_law_49 (by decide) (by decide) rfl (by decide) (law_history C0 I0 hi hcl kk)
  · exact lv_tableIn (tgt := 667) hx hb dL_law_49 (by decide) (by decide) rfl (by decide) (law_sent C0 I0 hi hcl kk)
  · exact lv_tableIn (tgt := 723) hx hb dL_law_49 (by decide) (by decide) rfl (by decide) (law_waiting C0 I0 hi hcl kk)
  · exact lv_tableIn (tgt := 779) hx hb dL_law_49 (by decide) (by decide) rfl (by decide) (law_lag C0 I0 hi hcl kk)
  · refine lv_tableOut (tgt := 820) hx hb dL_law_49 (by decide) (by decide) ?_
    refine W.widen (k := cells + 1) (n := slots + 6) (by omega) (by omega) ?_
    exact kk st t f H locs ls I0
set_option maxHeartbeats 4000000 in
set_option maxRecDepth 100000 in
/-- the law's loop, at its head -/
theorem law_loop {p : Program} {l : Launch} {e : Env} {s : State} {m : MethodId} {below : List Frame} {meth : Method} {c : Code} {b L : Nat} {xs : Nat → Int32} {g : GG} {sa a am : Nat → Nat} {o n : Nat} (C0 : LC p l s m c b L xs g sa a am o n) (hr : meth.sig.returnType = ret) (hlocks : meth.locks = false) :
    ∀ (N i : Nat) (st t : CS) (f : Nat → Int64) (H : Heap) (locs : List Loc) (ls : Array Slot) (cells slots : Nat), L < i + N → 1 ≤ i → i ≤ L + 3 → cells ≤ 60 + i → slots ≤ 2000 + 6 * i → LI s b g a am o n i st t f H locs ls → W p l e room_1 s m #[Value.ref b] below meth c H locs cells slots (lw_Z below #[Value.ref b] s) (F0 m 33 ls []) := by
  obtain ⟨hx, hb, hml, hown, hts, hX, hbl, hL, hlt, hC, hT0, hN, hDj⟩ := id C0
  have done : ∀ (i : Nat) (st t : CS) (f : Nat → Int64) (H : Heap) (locs : List Loc) (ls : Array Slot) (cells slots : Nat), i ≤ L + 3 → cells ≤ 60 + i → slots ≤ 2000 + 6 * i → LI s b g a am o n i st t f H locs ls → W p l e room_1 s m #[Value.ref b] below meth c H locs cells slots (lw_Z below #[Value.ref b] s) (F0 m 826 ls []) := by
    intro i st t f H locs ls cells slots hi hc hs I0
    obtain ⟨hR, hP, hM, hO, hS, hl⟩ := I0
    refine lv_iconst (v := 1) hx hb dL_law_826 (by decide) ?_
    refine va_forget (fun q hq => hS.2.2 q hq) ?_
    refine W.widen (k := 617831) (n := 7242576) (by omega) (by omega) ?_
    exact lw_ret (d0 := s.drawn) (Drawn.sameBut.refl s.drawn lw_cs) hx hb hr hlocks dL_law_827
  intro N
  induction N with
  | zero =>
    intro i st t f H locs ls cells slots h1 h2 h3 hc hs I0
    exact law_test C0 I0 h2 h3 (done i st t f H locs ls cells slots h3 hc hs I0) (fun h => absurd h (by omega))
  | succ N ih =>
    intro i st t f H locs ls cells slots h1 h2 h3 hc hs I0
    refine law_test C0 I0 h2 h3 (done i st t f H locs ls cells slots h3 hc hs I0) (fun h => ?_)
    refine law_step C0 I0 h ⟨by omega, by omega⟩ (fun st' t' f' H' locs' ls' I1 => ?_)
    obtain ⟨hR, hP, hM, hO, hS, hl⟩ := I1
    refine lv_iinc (v := nI (i + 3)) (lv' := [(4, .int (nI (i + 3))), (0, .ref b), (1, .ref (a 0)), (2, .ref (am 0)), (3, .ref o)]) hx hb dL_law_820 hl (k := 4) rfl (by rw [← nI_add]; rfl) (by decide) rfl (fun ls hl => ?_)
    refine lv_goto (tgt := 33) hx hb dL_law_823 (by decide) ?_
    exact ih (i + 3) st' t' f' H' locs' ls (cells + 1) (slots + 6) (by omega) (by omega) (by omega) (by omega) (by omega) ⟨hR, hP, hM, hO, hS, lv_sub hl [1, 2, 3, 4, 0] rfl⟩
