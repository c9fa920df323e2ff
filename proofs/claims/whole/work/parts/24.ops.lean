/-! THE CALLS THAT KEEP THE RELATION -/
theorem R_write {n : Nat} {s t : CS} {j v : Nat} (hR : Rl n s t) (hj : j < 8) (hh : s 5 (s 0 0 0) 0 < 40) : Rl n (writeS s j v) (apM (w3 t 9 0 0 0) (t 0 0 0) j v) := by
  have hl := hR.1.len
  have h4 := hR.2.2.2.1 0 (by omega)
  have := R_apply (s1 := w3 (w3 s 2 0 (s 5 (s 0 0 0) 0 + 1) j) 3 0 (s 5 (s 0 0 0) 0 + 1) v) (p := 0) (u := s 5 (s 0 0 0) 0 + 1) (hR.t9 0) (by omega) rfl (by omega) ((hR.1.m2 hj).m3)
    (fun c i k h => by rw [w3_c h.2.1, w3_c h.1]) (fun k h => by rw [w3_c (by decide)]; exact ⟨w3_k (by omega), by rw [w3_k (by omega), w3_c (by decide)]⟩)
    (fun c q k _ h => by rw [w3_c (by omega), w3_c (by omega)]) (fun h => absurd h (by omega)) (fun h => absurd h (by omega)) (by rw [w3_c (by decide), w3_eq]; exact hj)
  rw [w3_c (by decide), w3_eq, w3_eq] at this
  rw [h4]; exact this
theorem R_deliver {n : Nat} {s t : CS} {p : Nat} (hR : Rl n s t) (hp : p < s 1 0 0) (hp0 : 0 < p) (h8 : s 8 (s 0 0 (p - 1)) 0 ≠ 0) (hlt : s 5 (s 0 0 p) 0 < s 5 (s 0 0 (p - 1)) 0) :
    s 11 (2 * s 0 0 (p - 1) + 0) (s 9 (2 * s 0 0 (p - 1) + 0) 0) = s 5 (s 0 0 p) 0 + 1 ∧ 0 < s 10 (2 * s 0 0 (p - 1) + 0) 0 ∧
    Rl n (applyAt (qtake s (2 * s 0 0 (p - 1) + 0)) p (s 5 (s 0 0 p) 0 + 1)) (apM (w3 t 9 0 0 0) (s 0 0 p) (t 6 0 (41 * s 0 0 (p - 1) + s 5 (s 0 0 p) 0 + 1)) (t 7 0 (41 * s 0 0 (p - 1) + s 5 (s 0 0 p) 0 + 1))) := by
  obtain ⟨h1, h2, h3, h4, h5, h6, h7, h8', h9, h10, h11, h12, h13⟩ := id hR
  have hl := h1.len
  have hx := h1.ch (p - 1) (by omega)
  have nx := h1.nd _ hx
  have r := h8' (p - 1) (by omega)
  rw [show p - 1 + 1 = p by omega] at r
  obtain ⟨q1, q2⟩ := r.2.1.1 h8
  have hq10 := q1.2.2.1
  refine ⟨q1.top hlt, by omega, ?_⟩
  have q0 := h1.qu (2 * s 0 0 (p - 1) + 0) (by omega)
  have e2 : ∀ c k, c = 2 ∨ c = 3 → qtake s (2 * s 0 0 (p - 1) + 0) c 0 k = s c 0 k := fun c k h => qtake_o (Or.inl (by omega))
  have hu := h11 (p - 1) (by omega) (s 5 (s 0 0 p) 0 + 1) (by omega) (by omega)
  have := R_apply (s1 := qtake s (2 * s 0 0 (p - 1) + 0)) (p := p) (u := s 5 (s 0 0 p) 0 + 1) (hR.t9 0) hp rfl (by omega) (h1.qt q0.2)
    (fun c i k h => qtake_o (Or.inl (by omega))) (fun k _ => ⟨e2 _ _ (Or.inl rfl), e2 _ _ (Or.inr rfl)⟩) (fun c q k h _ => qtake_o (Or.inr (h hp0))) (fun _ => q1.take hlt) (fun _ => h8) (by rw [e2 _ _ (Or.inl rfl)]; exact h1.key _ (by omega))
  rw [e2 _ _ (Or.inl rfl), e2 _ _ (Or.inr rfl), hu.1, hu.2, ← Nat.add_assoc] at this
  exact this
theorem lclose_o {s : CS} {x c i k : Nat} (h : (c ≠ 8 ∧ c ≠ 10) ∨ (c = 8 ∧ i ≠ x) ∨ (c = 10 ∧ i ≠ 2 * x + 0 ∧ i ≠ 2 * x + 1)) : lclose s x c i k = s c i k := by
  unfold lclose
  rcases h with ⟨h1, h2⟩ | ⟨h1, h2⟩ | ⟨h1, h2, h3⟩
  · rw [w3_c h2, w3_c h2, w3_c h1]
  · subst h1; rw [w3_c (by decide), w3_c (by decide)]; simp [w3, h2]
  · subst h1; simp only [w3]; simp; rw [if_neg (by omega), if_neg (by omega)]
theorem lclose_8 {s : CS} {x : Nat} : lclose s x 8 x 0 = 0 := by unfold lclose; rw [w3_c (by decide), w3_c (by decide), w3_eq]
theorem lclose_q {s : CS} {x w : Nat} (hw : w < 2) : lclose s x 10 (2 * x + w) 0 = 0 := by
  unfold lclose; simp only [w3]
  obtain rfl | rfl : w = 0 ∨ w = 1 := by omega
  · simp
  · simp
theorem cntS_e {n : Nat} {s t : CS} (h : ∀ i, i < n → t 2 0 i = s 7 i 0) : ∀ k, k ≤ n → cntM t k = cntS s k
  | 0, _ => rfl
  | k + 1, hk => by simp only [cntM, cntS]; rw [cntS_e h k (by omega), h k (by omega)]
theorem cntS_pos {s : CS} {i : Nat} (h : s 7 i 0 = 0) : ∀ k, i < k → 1 ≤ cntS s k
  | 0, hk => absurd hk (by omega)
  | k + 1, hk => by
    simp only [cntS]
    by_cases e : i = k
    · subst e; rw [if_pos h]; omega
    · have := cntS_pos h k (by omega); omega
theorem cntS_one {s : CS} {x : Nat} : ∀ k, (∀ i, i < k → i ≠ x → s 7 i 0 ≠ 0) → cntS s k ≤ (if x < k then 1 else 0)
  | 0, _ => by simp [cntS]
  | k + 1, h => by
    have q := cntS_one k (fun i hi => h i (by omega))
    simp only [cntS]
    by_cases e : k = x
    · subst e; rw [if_neg (by omega)] at q; rw [if_pos (Nat.lt_succ_self _)]; split <;> omega
    · rw [if_neg (h k (by omega) e)]
      by_cases hx : x < k
      · rw [if_pos hx] at q; rw [if_pos (by omega)]; omega
      · rw [if_neg hx] at q; omega
theorem cntS_two {n : Nat} {s : CS} {x : Nat} (h : 1 < cntS s n) : ∃ i, i < n ∧ i ≠ x ∧ s 7 i 0 = 0 := by
  by_cases e : ∃ i, i < n ∧ i ≠ x ∧ s 7 i 0 = 0
  · exact e
  · have := cntS_one (s := s) (x := x) n (fun i hi hx h0 => e ⟨i, hi, hx, h0⟩)
    split at this <;> omega
theorem Rl.cnt {n : Nat} {s t : CS} (hR : Rl n s t) : cntM t n = cntS s n ∧ 1 ≤ cntS s n := by
  obtain ⟨h1, h2, h3, h4, h5, h6, h7, h8', h9, h10, h11, h12, p, hp, hp2⟩ := hR
  have hl := h1.len
  exact ⟨cntS_e (fun i hi => (h6 i hi).1) n (Nat.le_refl _), cntS_pos hp2 n (h1.ch p (by omega))⟩
theorem R_fail {n : Nat} {s t : CS} {p : Nat} (hR : Rl n s t) (hp : p < s 1 0 0) (hct : 1 < cntS s n) : Rl n (closeAt (w3 s 7 (s 0 0 p) 0 1) p) (failM t (s 0 0 p) p) := by
  have hR0 := hR.t9 0
  have ht0 : ∀ k, k < s 1 0 0 → t 0 0 k = s 0 0 k := hR.2.2.2.1
  have hfm : failM t (s 0 0 p) p = if 0 < p then w3 (w3 (w3 (w3 t 9 0 0 0) 2 0 (s 0 0 p) 1) 3 0 (s 0 0 p) 0) 3 0 (s 0 0 (p - 1)) 0 else w3 (w3 (w3 t 9 0 0 0) 2 0 (s 0 0 p) 1) 3 0 (s 0 0 p) 0 := by
    unfold failM; split
    · rw [ht0 _ (by omega)]
    · rfl
  rw [hfm]
  clear hfm ht0
  generalize w3 t 9 0 0 0 = t at hR0
  obtain ⟨h1, h2, h3, h4, h5, h6, h7, h8, h9, h10, h11, h12, h13⟩ := hR0
  have hl := h1.len
  have hx := h1.ch p (by omega)
  generalize hs' : closeAt (w3 s 7 (s 0 0 p) 0 1) p = s'
  generalize ht' : (if 0 < p then w3 (w3 (w3 t 2 0 (s 0 0 p) 1) 3 0 (s 0 0 p) 0) 3 0 (s 0 0 (p - 1)) 0 else w3 (w3 t 2 0 (s 0 0 p) 1) 3 0 (s 0 0 p) 0) = t'
  have e0 : ∀ k, w3 s 7 (s 0 0 p) 0 1 0 0 k = s 0 0 k := fun k => w3_c (by decide)
  have sh' : Sh n s' := by
    rw [← hs']; unfold closeAt; split
    · exact ((h1.m7 (by omega)).lc).lc
    · exact (h1.m7 (by omega)).lc
  have mh' : Mh n t' := by
    rw [← ht']; split
    · exact ((h2.m2 (by omega)).m3 (by omega)).m3 (by omega)
    · exact (h2.m2 (by omega)).m3 (by omega)
  have E : ∀ c i k, c ≠ 7 ∧ c ≠ 8 ∧ c ≠ 10 → s' c i k = s c i k := fun c i k h => by
    rw [← hs']; unfold closeAt; split
    · rw [lclose_o (Or.inl h.2), lclose_o (Or.inl h.2), w3_c h.1]
    · rw [lclose_o (Or.inl h.2), w3_c h.1]
  have E7 : ∀ i, s' 7 i 0 = if i = s 0 0 p then 1 else s 7 i 0 := fun i => by
    rw [← hs']; unfold closeAt; split
    · rw [lclose_o (Or.inl (by decide)), lclose_o (Or.inl (by decide))]; simp [w3]
    · rw [lclose_o (Or.inl (by decide))]; simp [w3]
  have E8 : ∀ i, i ≠ s 0 0 p → (0 < p → i ≠ s 0 0 (p - 1)) → s' 8 i 0 = s 8 i 0 := fun i hi hi2 => by
    rw [← hs']; unfold closeAt; split
    · rename_i hp0
      rw [lclose_o (Or.inr (Or.inl ⟨rfl, by rw [e0]; exact hi2 hp0⟩)), lclose_o (Or.inr (Or.inl ⟨rfl, by rw [e0]; exact hi⟩)), w3_c (by decide)]
    · rw [lclose_o (Or.inr (Or.inl ⟨rfl, by rw [e0]; exact hi⟩)), w3_c (by decide)]
  have E10 : ∀ q, q ≠ 2 * s 0 0 p + 0 → q ≠ 2 * s 0 0 p + 1 → (0 < p → q ≠ 2 * s 0 0 (p - 1) + 0 ∧ q ≠ 2 * s 0 0 (p - 1) + 1) → ∀ k, s' 10 q k = s 10 q k := fun q q1 q2 q3 k => by
    rw [← hs']; unfold closeAt; split
    · rename_i hp0
      rw [lclose_o (Or.inr (Or.inr ⟨rfl, by rw [e0]; exact q3 hp0⟩)), lclose_o (Or.inr (Or.inr ⟨rfl, by rw [e0]; exact ⟨q1, q2⟩⟩)), w3_c (by decide)]
    · rw [lclose_o (Or.inr (Or.inr ⟨rfl, by rw [e0]; exact ⟨q1, q2⟩⟩)), w3_c (by decide)]
  have Z8 : ∀ i, (i = s 0 0 p ∨ (0 < p ∧ i = s 0 0 (p - 1))) → s' 8 i 0 = 0 ∧ s' 10 (2 * i + 0) 0 = 0 ∧ s' 10 (2 * i + 1) 0 = 0 := fun i hi => by
    rw [← hs']; unfold closeAt
    rcases hi with hi | ⟨hp0, hi⟩
    · subst hi
      by_cases hp0 : 0 < p
      · have hne : s 0 0 p ≠ s 0 0 (p - 1) := fun e => by have := h5 _ _ hp (by omega) e; omega
        rw [if_pos hp0, e0, e0]
        refine ⟨?_, ?_, ?_⟩
        · rw [lclose_o (Or.inr (Or.inl ⟨rfl, hne⟩)), lclose_8]
        · rw [lclose_o (Or.inr (Or.inr ⟨rfl, by omega, by omega⟩)), lclose_q (by omega)]
        · rw [lclose_o (Or.inr (Or.inr ⟨rfl, by omega, by omega⟩)), lclose_q (by omega)]
      · rw [if_neg hp0, e0, lclose_8, lclose_q (by omega), lclose_q (by omega)]
        exact ⟨rfl, rfl, rfl⟩
    · subst hi
      rw [if_pos hp0, e0, e0, lclose_8, lclose_q (by omega), lclose_q (by omega)]
      exact ⟨rfl, rfl, rfl⟩
  have T : ∀ c i k, c ≠ 2 ∧ c ≠ 3 → t' c i k = t c i k := fun c i k h => by
    rw [← ht']; split
    · rw [w3_c h.2, w3_c h.2, w3_c h.1]
    · rw [w3_c h.2, w3_c h.1]
  have T2 : ∀ i, t' 2 0 i = if i = s 0 0 p then 1 else t 2 0 i := fun i => by
    rw [← ht']; split
    · rw [w3_c (by decide), w3_c (by decide)]; simp [w3]
    · rw [w3_c (by decide)]; simp [w3]
  have T3 : ∀ i, t' 3 0 i = if i = s 0 0 p ∨ (0 < p ∧ i = s 0 0 (p - 1)) then 0 else t 3 0 i := fun i => by
    rw [← ht']
    by_cases hp0 : 0 < p
    · rw [if_pos hp0]; simp only [w3, hp0]; simp
      by_cases a1 : i = s 0 0 (p - 1)
      · simp [a1]
      · by_cases a2 : i = s 0 0 p
        · simp [a2]
        · simp [a1, a2]
    · rw [if_neg hp0]; simp only [w3, hp0]; simp
  clear hs' ht'
  refine ⟨sh', mh', by rw [T _ _ _ (by decide), E _ _ _ (by decide)]; exact h3, fun k hk => ?_, fun j k hj hk => ?_, fun i hi => ?_, fun i hi hk => ?_, fun p' hp' => ?_, ?_, fun i hi j hj => ?_, fun p' hp' u' hu1' hu2' => ?_, ?_, ?_⟩
  · rw [E 1 _ _ (by decide)] at hk; rw [T 0 _ _ (by decide), E 0 _ _ (by decide)]; exact h4 k hk
  · rw [E 1 _ _ (by decide)] at hj hk; rw [E 0 _ _ (by decide), E 0 _ _ (by decide)]; exact h5 j k hj hk
  · obtain ⟨a1, a2, a3, a4⟩ := h6 i hi
    rw [T2, E7, T 4 _ _ (by decide), T 5 _ _ (by decide), E 5 _ _ (by decide), E 6 _ _ (by decide), a1]
    exact ⟨rfl, a2, a3, a4⟩
  · rw [E7]; split
    · decide
    · refine h7 i hi (fun k hk2 => ?_)
      have := hk k (by rw [E 1 _ _ (by decide)]; exact hk2); rw [E 0 _ _ (by decide)] at this; exact this
  · rw [E 1 _ _ (by decide)] at hp'; rw [E 0 _ _ (by decide), E 0 _ _ (by decide)]
    obtain ⟨b1, b2, b3, b4, b5⟩ := h8 p' hp'
    have hmm : s' 5 (s 0 0 (p' + 1)) 0 ≤ s' 5 (s 0 0 p') 0 ∧ s' 6 (s 0 0 p') 0 ≤ s' 6 (s 0 0 (p' + 1)) 0 := by rw [E 5 _ _ (by decide), E 5 _ _ (by decide), E 6 _ _ (by decide), E 6 _ _ (by decide)]; exact ⟨b3, b4⟩
    by_cases hc : s 0 0 p' = s 0 0 p ∨ (0 < p ∧ s 0 0 p' = s 0 0 (p - 1))
    · obtain ⟨z1, z2, z3⟩ := Z8 _ hc
      exact ⟨by rw [T3, if_pos hc, z1], ⟨fun z => absurd z1 z, fun _ => ⟨z2, z3⟩⟩, hmm.1, hmm.2, fun _ => z1⟩
    · have hc1 : s 0 0 p' ≠ s 0 0 p := fun e => hc (Or.inl e)
      have hc2 : 0 < p → s 0 0 p' ≠ s 0 0 (p - 1) := fun hp0 e => hc (Or.inr ⟨hp0, e⟩)
      have hc3 : s 0 0 (p' + 1) ≠ s 0 0 p := fun e => by
        have := h5 _ _ hp' hp e
        exact hc2 (by omega) (by rw [show p - 1 = p' by omega])
      have e8 : s' 8 (s 0 0 p') 0 = s 8 (s 0 0 p') 0 := E8 _ hc1 hc2
      refine ⟨by rw [T3, if_neg hc, e8]; exact b1, b2.congr e8 (E _ _ _ (by decide)) (E _ _ _ (by decide)) (E _ _ _ (by decide)) (E _ _ _ (by decide)) (fun c w k hcc hw => ?_), hmm.1, hmm.2, fun z => ?_⟩
      · by_cases c10 : c = 10
        · subst c10; exact E10 _ (by omega) (by omega) (fun hp0 => by have := hc2 hp0; omega) k
        · exact E _ _ _ (by omega)
      · rw [E7, E7, if_neg hc1, if_neg hc3] at z
        rw [e8]; exact b5 z
  · rw [E 1 _ _ (by decide), E 0 _ _ (by decide), E 5 _ _ (by decide), E 6 _ _ (by decide)]; exact h9
  · rw [E 12 _ _ (by decide), h10 i hi j hj, T 4 _ _ (by decide)]
    exact (valF_congr _ (fun u _ _ => ⟨T 6 _ _ (by decide), T 7 _ _ (by decide)⟩)).symm
  · rw [E 1 _ _ (by decide)] at hp'
    rw [E 0 _ _ (by decide), E 5 _ _ (by decide)] at hu2'
    rw [E 0 _ _ (by decide), E 2 _ _ (by decide), E 3 _ _ (by decide), T 6 _ _ (by decide), T 7 _ _ (by decide)]
    exact h11 p' hp' u' hu1' hu2'
  · rw [T 8 _ _ (by decide), E 4 _ _ (by decide)]; exact h12
  · obtain ⟨i, i1, i2, i3⟩ := cntS_two (x := s 0 0 p) hct
    by_cases hin : ∃ k, k < s 1 0 0 ∧ s 0 0 k = i
    · obtain ⟨k, k1, k2⟩ := hin
      exact ⟨k, by rw [E 1 _ _ (by decide)]; exact k1, by rw [E 0 _ _ (by decide), E7, k2, if_neg i2]; exact i3⟩
    · exact absurd i3 (h7 i i1 (fun k hk e => hin ⟨k, hk, e⟩))
/-- a row of puts on an open link -/
theorem lpN_o {s : CS} {x w v c i k : Nat} (h : (c ≠ 10 ∧ c ≠ 11) ∨ i ≠ 2 * x + w) : ∀ j, lpN s x w v j c i k = s c i k
  | 0 => rfl
  | j + 1 => by rw [lpN, lput_o h, lpN_o h j]
theorem lpN_put {s : CS} {x w v lo : Nat} (h8 : s 8 x 0 ≠ 0) (h : QR s (2 * x + w) lo v) : ∀ j, v + j ≤ 40 → QR (lpN s x w v j) (2 * x + w) lo (v + j)
  | 0, _ => h
  | j + 1, hj => by
    rw [lpN]
    exact lput_put (by rw [lpN_o (Or.inl (by decide))]; exact h8) (lpN_put h8 h j (by omega)) (by omega)
theorem R_resync {n : Nat} {s t : CS} {p : Nat} (hR : Rl n s t) (hp : p + 1 < s 1 0 0) (hf1 : s 7 (s 0 0 p) 0 = 0) (hf2 : s 7 (s 0 0 (p + 1)) 0 = 0) (h80 : s 8 (s 0 0 p) 0 = 0) :
    rsS s (s 0 0 p) (s 0 0 (p + 1)) 10 (2 * s 0 0 p + 0) 0 = s 5 (s 0 0 p) 0 - s 5 (s 0 0 (p + 1)) 0 ∧ Rl n (rsS s (s 0 0 p) (s 0 0 (p + 1))) (w3 (w3 t 9 0 0 0) 3 0 (s 0 0 p) 1) := by
  have hR0 := hR.t9 0
  generalize w3 t 9 0 0 0 = t at hR0
  obtain ⟨h1, h2, h3, h4, h5, h6, h7, h8, h9, h10, h11, h12, h13⟩ := hR0
  have hl := h1.len
  have hx := h1.ch p (by omega)
  have hy := h1.ch (p + 1) (by omega)
  obtain ⟨c1, c2, c3, c4, c5⟩ := h8 p hp
  obtain ⟨z0, z1⟩ := c2.2 h80
  have nx := h1.nd _ hx
  have ny := h1.nd _ hy
  have g0 := h1.qu (2 * s 0 0 p + 0) (by omega)
  have g1 := h1.qu (2 * s 0 0 p + 1) (by omega)
  generalize hyy : s 0 0 (p + 1) = y at hy c2 c3 c4 ny hf2 c5 c1 ⊢
  generalize hxx : s 0 0 p = x at *
  have k0 : QR (w3 s 8 x 0 1) (2 * x + 0) (s 5 y 0) (s 5 y 0) := QR.nil (by rw [w3_c (by decide)]; exact z0) (by rw [w3_c (by decide)]; exact g0.1) (by omega)
  have k1 := lpN_put (s := w3 s 8 x 0 1) (by rw [w3_eq]; decide) k0 (s 5 x 0 - s 5 y 0) (by omega)
  rw [show s 5 y 0 + (s 5 x 0 - s 5 y 0) = s 5 x 0 by omega] at k1
  have r1 : ∀ c i k, (c ≠ 10 ∧ c ≠ 11) ∨ i ≠ 2 * x + 0 → rs1 s x y c i k = w3 s 8 x 0 1 c i k := fun c i k h => lpN_o h _
  have k2 : QR (rs1 s x y) (2 * x + 1) (s 6 x 0) (s 6 x 0) := QR.nil (by rw [r1 _ _ _ (Or.inr (by omega)), w3_c (by decide)]; exact z1) (by rw [r1 _ _ _ (Or.inr (by omega)), w3_c (by decide)]; exact g1.1) (by omega)
  have k3 := lpN_put (s := rs1 s x y) (by rw [r1 _ _ _ (Or.inl (by decide)), w3_eq]; decide) k2 (s 6 y 0 - s 6 x 0) (by omega)
  rw [show s 6 x 0 + (s 6 y 0 - s 6 x 0) = s 6 y 0 by omega] at k3
  have r2 : ∀ c i k, (c ≠ 10 ∧ c ≠ 11) ∨ i ≠ 2 * x + 1 → rsS s x y c i k = rs1 s x y c i k := fun c i k h => lpN_o h _
  have k4 : QR (rsS s x y) (2 * x + 0) (s 5 y 0) (s 5 x 0) := QR.congr (s := rs1 s x y) k1 (r2 _ _ _ (Or.inr (by omega))) (r2 _ _ _ (Or.inr (by omega))) (fun k => r2 _ _ _ (Or.inr (by omega)))
  have k5 : QR (rsS s x y) (2 * x + 1) (s 6 x 0) (s 6 y 0) := k3
  have sh' : Sh n (rsS s x y) := ((h1.m8 (by omega)).lN (by omega)).lN (by omega)
  have E : ∀ c i k, c ≠ 10 ∧ c ≠ 11 ∧ c ≠ 8 → rsS s x y c i k = s c i k := fun c i k h => by rw [r2 _ _ _ (Or.inl ⟨h.1, h.2.1⟩), r1 _ _ _ (Or.inl ⟨h.1, h.2.1⟩), w3_c h.2.2]
  have E8 : ∀ i, rsS s x y 8 i 0 = if i = x then 1 else s 8 i 0 := fun i => by rw [r2 _ _ _ (Or.inl (by decide)), r1 _ _ _ (Or.inl (by decide))]; simp [w3]
  have EQ : ∀ c q k, q ≠ 2 * x + 0 → q ≠ 2 * x + 1 → c ≠ 8 → rsS s x y c q k = s c q k := fun c q k a1 a2 a3 => by rw [r2 _ _ _ (Or.inr a2), r1 _ _ _ (Or.inr a1), w3_c a3]
  refine ⟨k4.2.2.1, ?_⟩
  generalize rsS s x y = s' at *
  refine ⟨sh', h2.m3 (by omega), by rw [w3_c (by decide), E 1 _ _ (by decide)]; exact h3, fun k hk => ?_, fun j k hj hk => ?_, fun i hi => ?_, fun i hi hk => ?_, fun p' hp' => ?_, ?_, fun i hi j hj => ?_, fun p' hp' u' hu1' hu2' => ?_, ?_, ?_⟩
  · rw [E 1 _ _ (by decide)] at hk; rw [w3_c (by decide), E 0 _ _ (by decide)]; exact h4 k hk
  · rw [E 1 _ _ (by decide)] at hj hk; rw [E 0 _ _ (by decide), E 0 _ _ (by decide)]; exact h5 j k hj hk
  · rw [w3_c (by decide), w3_c (by decide), w3_c (by decide), E 7 _ _ (by decide), E 5 _ _ (by decide), E 6 _ _ (by decide)]
    exact h6 i hi
  · rw [E 7 _ _ (by decide)]
    refine h7 i hi (fun k hk2 => ?_)
    have := hk k (by rw [E 1 _ _ (by decide)]; exact hk2); rw [E 0 _ _ (by decide)] at this; exact this
  · rw [E 1 _ _ (by decide)] at hp'; rw [E 0 _ _ (by decide), E 0 _ _ (by decide)]
    obtain ⟨b1, b2, b3, b4, b5⟩ := h8 p' hp'
    have hmm : s' 5 (s 0 0 (p' + 1)) 0 ≤ s' 5 (s 0 0 p') 0 ∧ s' 6 (s 0 0 p') 0 ≤ s' 6 (s 0 0 (p' + 1)) 0 := by rw [E 5 _ _ (by decide), E 5 _ _ (by decide), E 6 _ _ (by decide), E 6 _ _ (by decide)]; exact ⟨b3, b4⟩
    by_cases hc : s 0 0 p' = x
    · obtain rfl : p' = p := h5 _ _ (by omega) (by omega) (hc.trans hxx.symm)
      rw [hyy, hc] at hmm
      rw [hyy, hc]
      refine ⟨by rw [w3_eq, E8, if_pos rfl], ⟨fun _ => ?_, fun z => ?_⟩, hmm.1, hmm.2, fun z => ?_⟩
      · rw [E 5 _ _ (by decide), E 5 _ _ (by decide), E 6 _ _ (by decide), E 6 _ _ (by decide)]; exact ⟨k4, k5⟩
      · rw [E8, if_pos rfl] at z; omega
      · rw [E 7 _ _ (by decide), E 7 _ _ (by decide)] at z; omega
    · have e8 : s' 8 (s 0 0 p') 0 = s 8 (s 0 0 p') 0 := by rw [E8, if_neg hc]
      refine ⟨by rw [w3_k hc, e8]; exact b1, b2.congr e8 (E _ _ _ (by decide)) (E _ _ _ (by decide)) (E _ _ _ (by decide)) (E _ _ _ (by decide)) (fun c w k hcc hw => EQ _ _ _ (by omega) (by omega) (by omega)), hmm.1, hmm.2, fun z => ?_⟩
      rw [E 7 _ _ (by decide), E 7 _ _ (by decide)] at z
      rw [e8]; exact b5 z
  · rw [E 1 _ _ (by decide), E 0 _ _ (by decide), E 5 _ _ (by decide), E 6 _ _ (by decide)]; exact h9
  · rw [E 12 _ _ (by decide), h10 i hi j hj, w3_c (by decide)]
    exact (valF_congr _ (fun u _ _ => ⟨w3_c (by decide), w3_c (by decide)⟩)).symm
  · rw [E 1 _ _ (by decide)] at hp'
    rw [E 0 _ _ (by decide), E 5 _ _ (by decide)] at hu2'
    rw [E 0 _ _ (by decide), E 2 _ _ (by decide), E 3 _ _ (by decide), w3_c (by decide), w3_c (by decide)]
    exact h11 p' hp' u' hu1' hu2'
  · rw [w3_c (by decide), E 4 _ _ (by decide)]; exact h12
  · obtain ⟨k, k1, k2⟩ := h13
    exact ⟨k, by rw [E 1 _ _ (by decide)]; exact k1, by rw [E 0 _ _ (by decide), E 7 _ _ (by decide)]; exact k2⟩
