theorem apM_o {t : CS} {nd k v c i j : Nat} (h : c ≠ 4 ∧ c ≠ 5 ∧ c ≠ 6 ∧ c ≠ 7 ∧ c ≠ 8) : apM t nd k v c i j = t c i j := by
  unfold apM ap0; split <;> simp [w3, h]
theorem apM_4 {t : CS} {nd k v i : Nat} : apM t nd k v 4 0 i = if i = nd then t 4 0 nd + 1 else t 4 0 i := by
  unfold apM ap0; split <;> simp [w3]
theorem apM_5 {t : CS} {nd k v i : Nat} : apM t nd k v 5 0 i = if nd = t 0 0 (t 1 0 0 - 1) ∧ i = nd then t 4 0 nd + 1 else t 5 0 i := by
  unfold apM ap0; split
  · rename_i h; simp [w3, ← h]
  · rename_i h; simp [w3, h]
theorem apM_6 {t : CS} {nd k v m : Nat} : apM t nd k v 6 0 m = if m = 41 * nd + (t 4 0 nd + 1) then k else t 6 0 m := by
  unfold apM ap0; split <;> simp [w3]
theorem apM_7 {t : CS} {nd k v m : Nat} : apM t nd k v 7 0 m = if m = 41 * nd + (t 4 0 nd + 1) then v else t 7 0 m := by
  unfold apM ap0; split <;> simp [w3]
theorem apM_8 {t : CS} {nd k v : Nat} : apM t nd k v 8 0 0 = if nd = t 0 0 (t 1 0 0 - 1) then t 4 0 nd + 1 else t 8 0 0 := by
  unfold apM ap0; split
  · rename_i h; simp [w3]
  · rename_i h; simp [w3]
theorem Mh.ap {n : Nat} {t : CS} (h : Mh n t) {nd k v : Nat} (hh : t 4 0 nd < 40) (hk : k < 8) : Mh n (apM t nd k v) := by
  unfold apM ap0; split
  · exact ((((h.m4 (by omega)).m6 hk).m7).m5 (by omega)).m8 (by omega)
  · exact ((h.m4 (by omega)).m6 hk).m7
theorem R_apply {n : Nat} {s t s1 : CS} {p u : Nat} (hR : Rl n s t) (hp : p < s 1 0 0) (hu : u = s 5 (s 0 0 p) 0 + 1) (hu4 : u ≤ 40) (sh1 : Sh n s1)
    (o : ∀ c i k, c ≠ 2 ∧ c ≠ 3 ∧ c ≠ 9 ∧ c ≠ 10 ∧ c ≠ 11 → s1 c i k = s c i k) (o2 : ∀ k, (k < u ∨ 0 < p) → s1 2 0 k = s 2 0 k ∧ s1 3 0 k = s 3 0 k)
    (oq : ∀ c q k, (0 < p → q ≠ 2 * s 0 0 (p - 1) + 0) → (c = 9 ∨ c = 10 ∨ c = 11) → s1 c q k = s c q k) (oq2 : 0 < p → QR s1 (2 * s 0 0 (p - 1) + 0) u (s 5 (s 0 0 (p - 1)) 0)) (hop : 0 < p → s 8 (s 0 0 (p - 1)) 0 ≠ 0) (hk8 : s1 2 0 u < 8) :
    Rl n (applyAt s1 p u) (apM t (s 0 0 p) (s1 2 0 u) (s1 3 0 u)) := by
  obtain ⟨h1, h2, h3, h4, h5, h6, h7, h8, h9, h10, h11, h12, h13⟩ := id hR
  have hmono := hR.mono
  have hl := h1.len
  have hx := h1.ch p (by omega)
  have e0 : ∀ k, s1 0 0 k = s 0 0 k := fun k => o _ _ _ (by decide)
  have e1 : s1 1 0 0 = s 1 0 0 := o _ _ _ (by decide)
  have n6 := h2.2.1.1
  have ht4 : t 4 0 (s 0 0 p) = s 5 (s 0 0 p) 0 := (h6 _ hx).2.1
  have hT : ∀ i, i < s 1 0 0 → (s 0 0 i = t 0 0 (t 1 0 0 - 1) ↔ i + 1 = s 1 0 0) := fun i hi => by
    rw [h3, h4 _ (by omega)]
    exact ⟨fun e => by have := h5 i (s 1 0 0 - 1) hi (by omega) e; omega, fun e => by rw [show s 1 0 0 - 1 = i by omega]⟩
  -- the reads
  have hshape : applyAt s1 p u = if p + 1 = s 1 0 0 then ackAt (apB s1 p u) p u else lput (apB s1 p u) (s1 0 0 p) 0 u := by
    by_cases ht : p + 1 = s 1 0 0
    · rw [if_pos ht]; exact applyAt_t (by rw [e1]; exact ht)
    · rw [if_neg ht]; exact applyAt_n (by rw [e1]; exact ht)
  have B5 : ∀ i, apB s1 p u 5 i 0 = if i = s 0 0 p then u else s 5 i 0 := fun i => by unfold apB; rw [w3_c (by decide), e0]; simp only [w3]; simp; rw [o _ _ _ (by decide)]
  have B12 : ∀ i k, apB s1 p u 12 i k = if i = s 0 0 p ∧ k = s1 2 0 u then s1 3 0 u else s 12 i k := fun i k => by unfold apB; rw [e0]; simp only [w3]; simp; rw [o 12 _ _ (by decide)]
  have Bo : ∀ c i k, c ≠ 5 ∧ c ≠ 12 ∧ c ≠ 2 ∧ c ≠ 3 ∧ c ≠ 9 ∧ c ≠ 10 ∧ c ≠ 11 → apB s1 p u c i k = s c i k := fun c i k h => (apB_o ⟨h.1, h.2.1⟩).trans (o _ _ _ h.2.2)
  have E : ∀ c i k, c = 0 ∨ c = 1 ∨ c = 7 ∨ c = 8 → applyAt s1 p u c i k = s c i k := fun c i k h => by
    rw [hshape]; split
    · rw [ak_o (by omega), Bo _ _ _ (by omega)]
    · rw [lput_o (Or.inl (by omega)), Bo _ _ _ (by omega)]
  have E23 : ∀ c k, c = 2 ∨ c = 3 → applyAt s1 p u c 0 k = s1 c 0 k := fun c k h => by
    rw [hshape]; split
    · rw [ak_o (by omega), apB_o (by omega)]
    · rw [lput_o (Or.inl (by omega)), apB_o (by omega)]
  have E4 : applyAt s1 p u 4 0 0 = if p + 1 = s 1 0 0 then u else s 4 0 0 := by
    rw [hshape]
    by_cases ht : p + 1 = s 1 0 0
    · rw [if_pos ht, if_pos ht, ak_4, Bo 1 _ _ (by decide), if_pos ht]
    · rw [if_neg ht, if_neg ht, lput_o (Or.inl (by decide)), Bo _ _ _ (by decide)]
  have E5 : ∀ i, applyAt s1 p u 5 i 0 = if i = s 0 0 p then u else s 5 i 0 := fun i => by
    rw [hshape]; split
    · rw [ak_o (by decide), B5]
    · rw [lput_o (Or.inl (by decide)), B5]
  have E6 : ∀ i, applyAt s1 p u 6 i 0 = if p + 1 = s 1 0 0 ∧ i = s 0 0 p then u else s 6 i 0 := fun i => by
    rw [hshape]
    by_cases ht : p + 1 = s 1 0 0
    · rw [if_pos ht, ak_6, Bo 0 _ _ (by decide), Bo 6 _ _ (by decide)]; simp [ht]
    · rw [if_neg ht, lput_o (Or.inl (by decide)), Bo _ _ _ (by decide)]; simp [ht]
  have E12 : ∀ i k, applyAt s1 p u 12 i k = if i = s 0 0 p ∧ k = s1 2 0 u then s1 3 0 u else s 12 i k := fun i k => by
    rw [hshape]; split
    · rw [ak_o (by decide), B12]
    · rw [lput_o (Or.inl (by decide)), B12]
  have EQ : ∀ c q k, c = 9 ∨ c = 10 ∨ c = 11 → (p + 1 = s 1 0 0 → 0 < p → q ≠ 2 * s 0 0 (p - 1) + 1) → (p + 1 ≠ s 1 0 0 → q ≠ 2 * s 0 0 p + 0) → applyAt s1 p u c q k = s1 c q k := fun c q k hc q1 q2 => by
    rw [hshape]
    by_cases ht : p + 1 = s 1 0 0
    · rw [if_pos ht, ak_q (by omega) (fun hp0 => by rw [Bo _ _ _ (by decide)]; exact q1 ht hp0), apB_o (by omega)]
    · rw [if_neg ht, lput_o (Or.inr (by rw [e0]; exact q2 ht)), apB_o (by omega)]
  have hu1 : u - 1 = s 5 (s 0 0 p) 0 := by omega
  refine ⟨sh1.ap hu4, h2.ap (by omega) hk8, by rw [apM_o (by decide), E 1 _ _ (by decide)]; exact h3, fun k hk => ?_, fun j k hj hk => ?_, fun i hi => ?_, fun i hi hk => ?_, fun p' hp' => ?_, ?_, fun i hi j hj => ?_, fun p' hp' u' hu1' hu2' => ?_, ?_, ?_⟩
  · rw [E 1 _ _ (by decide)] at hk; rw [apM_o (by decide), E 0 _ _ (by decide)]; exact h4 k hk
  · rw [E 1 _ _ (by decide)] at hj hk; rw [E 0 _ _ (by decide), E 0 _ _ (by decide)]; exact h5 j k hj hk
  · obtain ⟨a1, a2, a3, a4⟩ := h6 i hi
    rw [apM_o (by decide), apM_4, apM_5, E 7 _ _ (by decide), E5, E6, ht4]
    refine ⟨a1, ?_, ?_, ?_⟩
    · by_cases hi2 : i = s 0 0 p
      · rw [if_pos hi2, if_pos hi2]; exact hu.symm
      · rw [if_neg hi2, if_neg hi2]; exact a2
    · by_cases hi2 : i = s 0 0 p
      · by_cases ht : p + 1 = s 1 0 0
        · rw [if_pos ⟨(hT p hp).mpr ht, hi2⟩, if_pos ⟨ht, hi2⟩]; exact hu.symm
        · rw [if_neg (fun q => ht ((hT p hp).mp q.1)), if_neg (fun q => ht q.1)]; exact a3
      · rw [if_neg (fun q => hi2 q.2), if_neg (fun q => hi2 q.2)]; exact a3
    · by_cases hi2 : i = s 0 0 p
      · subst hi2
        rw [if_pos rfl]
        by_cases ht : p + 1 = s 1 0 0
        · rw [if_pos ⟨ht, rfl⟩]; exact Nat.le_refl _
        · rw [if_neg (fun q => ht q.1)]; omega
      · rw [if_neg hi2, if_neg (fun q => hi2 q.2)]; exact a4
  · rw [E 7 _ _ (by decide)]; refine h7 i hi (fun k hk2 => ?_)
    have := hk k (by rw [E 1 _ _ (by decide)]; exact hk2); rw [E 0 _ _ (by decide)] at this; exact this
  · rw [E 1 _ _ (by decide)] at hp'; rw [E 0 _ _ (by decide), E 0 _ _ (by decide)]
    obtain ⟨b1, b2, b3, b4, b5⟩ := h8 p' hp'
    have hd : s 0 0 p' ≠ s 0 0 (p' + 1) := fun e => by have := h5 p' (p' + 1) (by omega) hp' e; omega
    refine ⟨by rw [apM_o (by decide), E 8 _ _ (by decide)]; exact b1, ?_, ?_, ?_, by rw [E 7 _ _ (by decide), E 7 _ _ (by decide), E 8 _ _ (by decide)]; exact b5⟩
    · by_cases c1 : p' = p
      · -- the node's own link
        subst c1
        have ht : p' + 1 ≠ s 1 0 0 := by omega
        refine ⟨fun z => ?_, fun z => ?_⟩
        · rw [E 8 _ _ (by decide)] at z
          obtain ⟨q1, q2⟩ := b2.1 z
          rw [E5, E5, E6, E6, if_pos rfl, if_neg hd.symm, if_neg (fun q => ht q.1), if_neg (fun q => ht q.1)]
          have hpx : 0 < p' → s 0 0 (p' - 1) ≠ s 0 0 p' := fun hp0 e => by have := h5 (p' - 1) p' (by omega) (by omega) e; omega
          refine ⟨?_, q2.congr ?_ ?_ (fun k => ?_)⟩
          · rw [hshape, if_neg ht, e0]
            have := lput_put (s := apB s1 p' u) (x := s 0 0 p') (w := 0) (lo := s 5 (s 0 0 (p' + 1)) 0) (hi := s 5 (s 0 0 p') 0) (by rw [Bo _ _ _ (by decide)]; exact z) (q1.congr (by rw [apB_o (by decide), oq _ _ _ (fun hp0 => by have := hpx hp0; omega) (by omega)]) (by rw [apB_o (by decide), oq _ _ _ (fun hp0 => by have := hpx hp0; omega) (by omega)]) (fun k => by rw [apB_o (by decide), oq _ _ _ (fun hp0 => by have := hpx hp0; omega) (by omega)])) (by omega)
            rw [← hu] at this
            exact this
          · rw [EQ _ _ _ (by omega) (fun q => absurd q ht) (fun _ => by omega), oq _ _ _ (fun hp0 => by omega) (by omega)]
          · rw [EQ _ _ _ (by omega) (fun q => absurd q ht) (fun _ => by omega), oq _ _ _ (fun hp0 => by omega) (by omega)]
          · rw [EQ _ _ _ (by omega) (fun q => absurd q ht) (fun _ => by omega), oq _ _ _ (fun hp0 => by omega) (by omega)]
        · rw [E 8 _ _ (by decide)] at z
          obtain ⟨q1, q2⟩ := b2.2 z
          have hpx : 0 < p' → s 0 0 (p' - 1) ≠ s 0 0 p' := fun hp0 e => by have := h5 (p' - 1) p' (by omega) (by omega) e; omega
          have hsh : applyAt s1 p' u = apB s1 p' u := by rw [hshape, if_neg ht, e0, lput_shut (by rw [Bo _ _ _ (by decide)]; exact z)]
          rw [hsh, apB_o (by decide), apB_o (by decide), oq _ _ _ (fun hp0 => by have := hpx hp0; omega) (by omega), oq _ _ _ (fun hp0 => by omega) (by omega)]
          exact ⟨q1, q2⟩
      · have x1 : s 0 0 p' ≠ s 0 0 p := fun e => c1 (h5 p' p (by omega) hp e)
        by_cases c2 : p' + 1 = p
        · -- the link to the node
          subst c2
          have z := hop (by omega)
          rw [Nat.add_sub_cancel] at z oq2 oq EQ
          obtain ⟨q1, q2⟩ := b2.1 z
          have qq := oq2 (by omega)
          refine ⟨fun _ => ?_, fun z2 => by rw [E 8 _ _ (by decide)] at z2; exact absurd z2 z⟩
          rw [E5, E5, E6, E6, if_pos rfl, if_neg x1, if_neg (fun q => x1 q.2)]
          refine ⟨qq.congr (EQ _ _ _ (by omega) (fun _ _ => by omega) (fun _ => by omega)) (EQ _ _ _ (by omega) (fun _ _ => by omega) (fun _ => by omega)) (fun k => EQ _ _ _ (by omega) (fun _ _ => by omega) (fun _ => by omega)), ?_⟩
          by_cases ht : p' + 1 + 1 = s 1 0 0
          · rw [if_pos ⟨ht, rfl⟩, hshape, if_pos ht]
            have hz6 : s 6 (s 0 0 (p' + 1)) 0 = s 5 (s 0 0 (p' + 1)) 0 := by have := h9; rw [show s 1 0 0 - 1 = p' + 1 by omega] at this; exact this
            rw [hz6] at q2
            have b0 : apB s1 (p' + 1) u 0 0 (p' + 1 - 1) = s 0 0 p' := by rw [Bo _ _ _ (by decide), Nat.add_sub_cancel]
            have := ak_put (s := apB s1 (p' + 1) u) (p := p' + 1) (lo := s 6 (s 0 0 p') 0) (hi := s 5 (s 0 0 (p' + 1)) 0) (by omega) (by rw [b0, Bo _ _ _ (by decide)]; exact z) (by
              rw [b0]
              exact q2.congr (by rw [apB_o (by decide), oq _ _ _ (fun _ => by omega) (by omega)]) (by rw [apB_o (by decide), oq _ _ _ (fun _ => by omega) (by omega)]) (fun k => by rw [apB_o (by decide), oq _ _ _ (fun _ => by omega) (by omega)])) (by omega)
            rw [b0, ← hu] at this
            exact this
          · rw [if_neg (fun q => ht q.1)]
            exact q2.congr (by rw [EQ _ _ _ (by omega) (fun q => absurd q ht) (fun _ => by omega), oq _ _ _ (fun _ => by omega) (by omega)]) (by rw [EQ _ _ _ (by omega) (fun q => absurd q ht) (fun _ => by omega), oq _ _ _ (fun _ => by omega) (by omega)]) (fun k => by rw [EQ _ _ _ (by omega) (fun q => absurd q ht) (fun _ => by omega), oq _ _ _ (fun _ => by omega) (by omega)])
        · have x2 : s 0 0 (p' + 1) ≠ s 0 0 p := fun e => c2 (h5 (p' + 1) p (by omega) hp e)
          have x3 : 0 < p → s 0 0 p' ≠ s 0 0 (p - 1) := fun hp0 e => by have := h5 p' (p - 1) (by omega) (by omega) e; omega
          refine b2.congr (E 8 _ _ (by decide)) (by rw [E5, if_neg x1]) (by rw [E5, if_neg x2]) (by rw [E6, if_neg (fun q => x1 q.2)]) (by rw [E6, if_neg (fun q => x2 q.2)]) (fun c w k hc hw => ?_)
          rw [EQ _ _ _ hc (fun _ hp0 => by have := x3 hp0; omega) (fun _ => by omega), oq _ _ _ (fun hp0 => by have := x3 hp0; omega) hc]
    · -- histories
      rw [E5, E5]
      by_cases c1 : s 0 0 (p' + 1) = s 0 0 p
      · have : p' + 1 = p := h5 _ _ hp' hp c1
        rw [if_pos c1, if_neg (by rw [← c1]; exact hd)]
        have := (oq2 (by omega)).1
        rw [show p - 1 = p' by omega] at this; exact this
      · rw [if_neg c1]
        by_cases c2 : s 0 0 p' = s 0 0 p
        · rw [if_pos c2]; rw [c2] at b3; omega
        · rw [if_neg c2]; exact b3
    · rw [E6, E6]
      by_cases c1 : p + 1 = s 1 0 0 ∧ s 0 0 (p' + 1) = s 0 0 p
      · rw [if_pos c1, if_neg (fun q => hd (q.2.trans c1.2.symm))]
        have := (h6 _ hx).2.2.2
        rw [c1.2] at b4; omega
      · rw [if_neg c1]
        by_cases c2 : p + 1 = s 1 0 0 ∧ s 0 0 p' = s 0 0 p
        · have : p' = p := h5 _ _ (by omega) hp c2.2
          omega
        · rw [if_neg c2]; exact b4
  · rw [E 1 _ _ (by decide), E 0 _ _ (by decide), E5, E6]
    by_cases ht : p + 1 = s 1 0 0
    · rw [show s 1 0 0 - 1 = p by omega, if_pos ⟨ht, rfl⟩, if_pos rfl]
    · have : s 0 0 (s 1 0 0 - 1) ≠ s 0 0 p := fun e => by have := h5 _ _ (by omega) hp e; omega
      rw [if_neg (fun q => ht q.1), if_neg this]; exact h9
  · rw [E12, apM_4]
    have idx : ∀ u', 1 ≤ u' → u' ≤ 40 → i ≠ s 0 0 p → 41 * i + u' ≠ 41 * s 0 0 p + (t 4 0 (s 0 0 p) + 1) := fun u' q1 q2 q3 => by omega
    by_cases hi2 : i = s 0 0 p
    · subst hi2
      rw [if_pos rfl]
      have hv : valF (apM t (s 0 0 p) (s1 2 0 u) (s1 3 0 u)) (s 0 0 p) j (t 4 0 (s 0 0 p)) = valF t (s 0 0 p) j (t 4 0 (s 0 0 p)) := valF_congr _ (fun u' q1 q2 => ⟨by rw [apM_6, if_neg (by omega)], by rw [apM_7, if_neg (by omega)]⟩)
      rw [valF, apM_6, apM_7, if_pos rfl, if_pos rfl, hv, ← h10 _ hi j hj]
      by_cases hj2 : j = s1 2 0 u
      · rw [if_pos ⟨rfl, hj2⟩, if_pos hj2.symm]
      · rw [if_neg (fun q => hj2 q.2), if_neg (fun q => hj2 q.symm)]
    · rw [if_neg (fun q => hi2 q.1), if_neg hi2, h10 i hi j hj]
      have := (h2.nd i (by omega)).1
      exact (valF_congr _ (fun u' q1 q2 => ⟨by rw [apM_6, if_neg (idx u' q1 (by omega) hi2)], by rw [apM_7, if_neg (idx u' q1 (by omega) hi2)]⟩)).symm
  · rw [E 1 _ _ (by decide)] at hp'
    rw [E 0 _ _ (by decide), E5] at hu2'
    rw [E23 _ _ (Or.inl rfl), E23 _ _ (Or.inr rfl), E 0 _ _ (by decide), apM_6, apM_7, ht4, ← hu]
    by_cases hi2 : s 0 0 p' = s 0 0 p
    · rw [if_pos hi2] at hu2'
      rw [hi2]
      by_cases hu3 : u' = u
      · subst hu3; rw [if_pos rfl, if_pos rfl]; exact ⟨rfl, rfl⟩
      · rw [if_neg (by omega), if_neg (by omega), (o2 u' (Or.inl (by omega))).1, (o2 u' (Or.inl (by omega))).2]
        exact h11 p hp u' hu1' (by omega)
    · rw [if_neg hi2] at hu2'
      have hx' := h1.ch p' (by omega)
      have := (h1.nd _ hx').1
      have hlt : u' < u ∨ 0 < p := by
        by_cases hp0 : 0 < p
        · exact Or.inr hp0
        · obtain rfl : p = 0 := by omega
          have := (hmono 0 p' (by omega) hp').1
          exact Or.inl (by omega)
      rw [if_neg (by omega), if_neg (by omega), (o2 u' hlt).1, (o2 u' hlt).2]
      exact h11 p' hp' u' hu1' hu2'
  · rw [apM_8, E4, ht4]
    by_cases ht : p + 1 = s 1 0 0
    · rw [if_pos ((hT p hp).mpr ht), if_pos ht]; exact hu.symm
    · rw [if_neg (fun q => ht ((hT p hp).mp q)), if_neg ht]; exact h12
  · obtain ⟨p', a1, a2⟩ := h13
    exact ⟨p', by rw [E 1 _ _ (by decide)]; exact a1, by rw [E 0 _ _ (by decide), E 7 _ _ (by decide)]; exact a2⟩
