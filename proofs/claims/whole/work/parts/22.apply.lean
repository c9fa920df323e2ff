/-! WHAT AN APPLICATION AND AN ACKNOWLEDGEMENT CHANGE -/
def apB (s : CS) (p u : Nat) : CS := w3 (w3 s 5 (s 0 0 p) 0 u) 12 (s 0 0 p) (s 2 0 u) (s 3 0 u)
theorem apB_o {s : CS} {p u c i k : Nat} (h : c ≠ 5 ∧ c ≠ 12) : apB s p u c i k = s c i k := by unfold apB; rw [w3_c h.2, w3_c h.1]
theorem applyAt_n {s : CS} {p u : Nat} (h : p + 1 ≠ s 1 0 0) : applyAt s p u = lput (apB s p u) (s 0 0 p) 0 u := if_neg h
theorem applyAt_t {s : CS} {p u : Nat} (h : p + 1 = s 1 0 0) : applyAt s p u = ackAt (apB s p u) p u := if_pos h
def akB (s : CS) (p u : Nat) : CS := if p + 1 = s 1 0 0 then w3 (w3 s 6 (s 0 0 p) 0 u) 4 0 0 u else w3 s 6 (s 0 0 p) 0 u
theorem ackAt_e {s : CS} {p u : Nat} : ackAt s p u = if 0 < p then lput (akB s p u) (s 0 0 (p - 1)) 1 u else akB s p u := rfl
theorem akB_o {s : CS} {p u c i k : Nat} (h : c ≠ 4 ∧ c ≠ 6) : akB s p u c i k = s c i k := by
  unfold akB; split
  · rw [w3_c h.1, w3_c h.2]
  · rw [w3_c h.2]
theorem akB_6 {s : CS} {p u i : Nat} : akB s p u 6 i 0 = if i = s 0 0 p then u else s 6 i 0 := by
  unfold akB; split <;> simp [w3]
theorem akB_4 {s : CS} {p u : Nat} : akB s p u 4 0 0 = if p + 1 = s 1 0 0 then u else s 4 0 0 := by
  unfold akB; split <;> simp [w3]
/-- acknowledgeAt: reads -/
theorem ak_o {s : CS} {p u c i k : Nat} (h : c ≠ 4 ∧ c ≠ 6 ∧ c ≠ 10 ∧ c ≠ 11) : ackAt s p u c i k = s c i k := by
  rw [ackAt_e]; split
  · rw [lput_o (Or.inl ⟨h.2.2.1, h.2.2.2⟩), akB_o ⟨h.1, h.2.1⟩]
  · rw [akB_o ⟨h.1, h.2.1⟩]
theorem ak_6 {s : CS} {p u i : Nat} : ackAt s p u 6 i 0 = if i = s 0 0 p then u else s 6 i 0 := by
  rw [ackAt_e]; split
  · rw [lput_o (Or.inl (by decide)), akB_6]
  · rw [akB_6]
theorem ak_4 {s : CS} {p u : Nat} : ackAt s p u 4 0 0 = if p + 1 = s 1 0 0 then u else s 4 0 0 := by
  rw [ackAt_e]; split
  · rw [lput_o (Or.inl (by decide)), akB_4]
  · rw [akB_4]
theorem ak_q {s : CS} {p u c q k : Nat} (hc : c ≠ 4 ∧ c ≠ 6) (h : 0 < p → q ≠ 2 * s 0 0 (p - 1) + 1) : ackAt s p u c q k = s c q k := by
  rw [ackAt_e]; split
  · rename_i hp
    rw [lput_o (Or.inr (h hp)), akB_o hc]
  · rw [akB_o hc]
theorem lput_put {s : CS} {x w lo hi : Nat} (h8 : s 8 x 0 ≠ 0) (h : QR s (2 * x + w) lo hi) (hh : hi < 40) : QR (lput s x w (hi + 1)) (2 * x + w) lo (hi + 1) := by
  unfold lput; rw [if_neg h8]; exact h.put hh
theorem lput_shut {s : CS} {x w v : Nat} (h8 : s 8 x 0 = 0) : lput s x w v = s := if_pos h8
theorem ak_put {s : CS} {p lo hi : Nat} (hp : 0 < p) (h8 : s 8 (s 0 0 (p - 1)) 0 ≠ 0) (h : QR s (2 * s 0 0 (p - 1) + 1) lo hi) (hh : hi < 40) : QR (ackAt s p (hi + 1)) (2 * s 0 0 (p - 1) + 1) lo (hi + 1) := by
  rw [ackAt_e, if_pos hp]
  exact lput_put (by rw [akB_o (by decide)]; exact h8) (h.congr (akB_o (by decide)) (akB_o (by decide)) (fun k => akB_o (by decide))) hh
theorem ak_shut {s : CS} {p u c q k : Nat} (hc : c ≠ 4 ∧ c ≠ 6) (h8 : 0 < p → s 8 (s 0 0 (p - 1)) 0 = 0) : ackAt s p u c q k = s c q k := by
  rw [ackAt_e]; split
  · rename_i hp
    rw [lput_shut (by rw [akB_o (by decide)]; exact h8 hp), akB_o hc]
  · rw [akB_o hc]
/-- the state of the class with the tail's acknowledgement: acknowledging the number that follows keeps every link -/
theorem LK.ack {s : CS} {p u : Nat} (hp : 0 < p) (hu : u = s 6 (s 0 0 p) 0 + 1) (hu4 : u ≤ 40) (hne : s 0 0 (p - 1) ≠ s 0 0 p) (h : LK s (s 0 0 (p - 1)) (s 0 0 p)) : LK (ackAt s p u) (s 0 0 (p - 1)) (s 0 0 p) := by
  have e6 : ackAt s p u 6 (s 0 0 (p - 1)) 0 = s 6 (s 0 0 (p - 1)) 0 := by rw [ak_6, if_neg hne]
  have e6' : ackAt s p u 6 (s 0 0 p) 0 = u := by rw [ak_6, if_pos rfl]
  have e8 : ackAt s p u 8 (s 0 0 (p - 1)) 0 = s 8 (s 0 0 (p - 1)) 0 := ak_o (by decide)
  refine ⟨fun z => ?_, fun z => ?_⟩
  · rw [e8] at z
    obtain ⟨q1, q2⟩ := h.1 z
    rw [e6, e6', ak_o (by decide), ak_o (by decide), hu]
    exact ⟨q1.congr (ak_q (by decide) (fun _ => by omega)) (ak_q (by decide) (fun _ => by omega)) (fun k => ak_q (by decide) (fun _ => by omega)), ak_put hp z q2 (by omega)⟩
  · rw [e8] at z
    obtain ⟨q1, q2⟩ := h.2 z
    exact ⟨(ak_shut (by decide) (fun _ => z)).trans q1, (ak_shut (by decide) (fun _ => z)).trans q2⟩
/-- acknowledge at place p (not the tail) -/
theorem R_ack {n : Nat} {s t : CS} {p : Nat} (hR : Rl n s t) (hp : p + 1 < s 1 0 0) (h8 : s 8 (s 0 0 p) 0 ≠ 0) (hlt : s 6 (s 0 0 p) 0 < s 6 (s 0 0 (p + 1)) 0) :
    s 11 (2 * s 0 0 p + 1) (s 9 (2 * s 0 0 p + 1) 0) = s 6 (s 0 0 p) 0 + 1 ∧ 0 < s 10 (2 * s 0 0 p + 1) 0 ∧ Rl n (ackAt (qtake s (2 * s 0 0 p + 1)) p (s 6 (s 0 0 p) 0 + 1)) (w3 (w3 t 9 0 0 0) 5 0 (s 0 0 p) (s 6 (s 0 0 p) 0 + 1)) := by
  have hR0 := hR.t9 0
  have hah := hR.ah
  generalize w3 t 9 0 0 0 = t at hR0
  obtain ⟨h1, h2, h3, h4, h5, h6, h7, h8', h9, h10, h11, h12, h13⟩ := hR0
  have hl := h1.len
  have hx := h1.ch p (by omega)
  have hy := h1.ch (p + 1) (by omega)
  have nx := h1.nd _ hx
  have ny := h1.nd _ hy
  obtain ⟨r1, r2, r3, r4, r5⟩ := h8' p hp
  obtain ⟨q1, q2⟩ := r2.1 h8
  have hyx : s 0 0 (p + 1) ≠ s 0 0 p := fun e => by have := h5 _ _ hp (by omega) e; omega
  have hq10 : s 10 (2 * s 0 0 p + 1) 0 = s 6 (s 0 0 (p + 1)) 0 - s 6 (s 0 0 p) 0 := q2.2.2.1
  have hle : s 6 (s 0 0 p) 0 + 1 ≤ s 5 (s 0 0 p) 0 := by
    have := hah (p + 1) p hp (by omega); omega
  refine ⟨q2.top hlt, by omega, ?_⟩
  have qt := q2.take hlt
  have q0 := h1.qu (2 * s 0 0 p + 1) (by omega)
  generalize hs1 : qtake s (2 * s 0 0 p + 1) = s1 at qt
  have o : ∀ c i k, (c ≠ 9 ∧ c ≠ 10) ∨ i ≠ 2 * s 0 0 p + 1 → s1 c i k = s c i k := fun c i k h => by rw [← hs1]; exact qtake_o h
  have s1h : Sh n s1 := by rw [← hs1]; exact h1.qt q0.2
  have e0 : ∀ k, s1 0 0 k = s 0 0 k := fun k => o _ _ _ (Or.inl (by decide))
  have e1 : s1 1 0 0 = s 1 0 0 := o _ _ _ (Or.inl (by decide))
  generalize hx0 : s 0 0 p = x at *
  generalize hu : s 6 x 0 + 1 = u at *
  have E : ∀ c i k, c ≠ 4 ∧ c ≠ 6 ∧ c ≠ 10 ∧ c ≠ 11 ∧ c ≠ 9 → ackAt s1 p u c i k = s c i k := fun c i k h => (ak_o ⟨h.1, h.2.1, h.2.2.1, h.2.2.2.1⟩).trans (o _ _ _ (Or.inl ⟨h.2.2.2.2, h.2.2.1⟩))
  have E6 : ∀ i, ackAt s1 p u 6 i 0 = if i = x then u else s 6 i 0 := fun i => by rw [ak_6, e0, hx0, o _ _ _ (Or.inl (by decide))]
  have E4 : ackAt s1 p u 4 0 0 = s 4 0 0 := by rw [ak_4, e1, if_neg (by omega), o _ _ _ (Or.inl (by decide))]
  have Eq : ∀ c q k, c ≠ 4 ∧ c ≠ 6 → (0 < p → q ≠ 2 * s 0 0 (p - 1) + 1) → q ≠ 2 * x + 1 → ackAt s1 p u c q k = s c q k := fun c q k hc hq hq2 => (ak_q hc (by rw [e0]; exact hq)).trans (o _ _ _ (Or.inr hq2))
  refine ⟨s1h.aa (by omega), h2.m5 (by omega), by rw [w3_c (by decide), E _ _ _ (by decide)]; exact h3, fun k hk => ?_, fun j k hj hk => ?_, fun i hi => ?_, fun i hi hk => ?_, fun p' hp' => ?_, ?_, fun i hi j hj => ?_, fun p' hp' u' hu1 hu2 => ?_, by rw [w3_c (by decide), E4]; exact h12, ?_⟩
  · rw [E _ _ _ (by decide)] at hk; rw [w3_c (by decide), E _ _ _ (by decide)]; exact h4 k hk
  · rw [E _ _ _ (by decide)] at hj hk; rw [E _ _ _ (by decide), E _ _ _ (by decide)]; exact h5 j k hj hk
  · obtain ⟨a1, a2, a3, a4⟩ := h6 i hi
    rw [w3_c (by decide), w3_c (by decide), E _ _ _ (by decide), E _ _ _ (by decide), E6]
    by_cases hix : i = x
    · subst hix; simp only [w3_eq, if_true]; exact ⟨a1, a2, trivial, hle⟩
    · rw [if_neg hix, w3_k hix]; exact ⟨a1, a2, a3, a4⟩
  · rw [E _ _ _ (by decide)]; refine h7 i hi (fun k hk2 => ?_)
    have := hk k (by rw [E _ _ _ (by decide)]; exact hk2); rw [E _ _ _ (by decide)] at this; exact this
  · rw [E _ _ _ (by decide)] at hp'; rw [E _ _ _ (by decide), E _ _ _ (by decide)]
    obtain ⟨b1, b2, b3, b4, b5⟩ := h8' p' hp'
    have hd : s 0 0 p' ≠ s 0 0 (p' + 1) := fun e => by have := h5 p' (p' + 1) (by omega) hp' e; omega
    have hmono6 : (if s 0 0 p' = x then u else s 6 (s 0 0 p') 0) ≤ (if s 0 0 (p' + 1) = x then u else s 6 (s 0 0 (p' + 1)) 0) := by
      by_cases hc1 : s 0 0 p' = x
      · have : p' = p := h5 p' p (by omega) (by omega) (by rw [hc1, hx0])
        subst this
        rw [if_pos hc1, if_neg (by rw [← hc1]; exact hd.symm)]; omega
      · rw [if_neg hc1]
        by_cases hc2 : s 0 0 (p' + 1) = x
        · rw [if_pos hc2]; rw [hc2] at b4; omega
        · rw [if_neg hc2]; exact b4
    refine ⟨by rw [w3_c (by decide), E _ _ _ (by decide)]; exact b1, ?_, by rw [E _ _ _ (by decide), E _ _ _ (by decide)]; exact b3, by rw [E6, E6]; exact hmono6, by rw [E _ _ _ (by decide), E _ _ _ (by decide), E _ _ _ (by decide)]; exact b5⟩
    by_cases hc1 : p' = p
    · subst hc1; rw [hx0] at b2 b1 ⊢
      refine ⟨fun z => ?_, fun z => ?_⟩
      · rw [E _ _ _ (by decide), E _ _ _ (by decide), E6, E6, if_pos rfl, if_neg hyx]
        refine ⟨q1.congr (Eq _ _ _ (by decide) (fun _ => by omega) (by omega)) (Eq _ _ _ (by decide) (fun _ => by omega) (by omega)) (fun k => Eq _ _ _ (by decide) (fun _ => by omega) (by omega)), ?_⟩
        have hpx : 0 < p' → s 0 0 (p' - 1) ≠ x := fun hp0 e => by have := h5 (p' - 1) p' (by omega) (by omega) (by rw [e, hx0]); omega
        refine qt.congr ?_ ?_ (fun k => ?_)
        · exact ak_q (by decide) (fun hp0 => by rw [e0]; have := hpx hp0; omega)
        · exact ak_q (by decide) (fun hp0 => by rw [e0]; have := hpx hp0; omega)
        · exact ak_q (by decide) (fun hp0 => by rw [e0]; have := hpx hp0; omega)
      · rw [E _ _ _ (by decide)] at z; exact absurd z h8
    · have hpx' : s 0 0 p' ≠ x := fun e => hc1 (h5 p' p (by omega) (by omega) (by rw [e, hx0]))
      by_cases hc2 : p' + 1 = p
      · subst hc2
        have hpe : s1 0 0 (p' + 1 - 1) = s 0 0 p' := by rw [Nat.add_sub_cancel]; exact e0 p'
        have hpe2 : s1 0 0 (p' + 1) = x := by rw [e0]; exact hx0
        have b2' : LK s1 (s1 0 0 (p' + 1 - 1)) (s1 0 0 (p' + 1)) := by
          rw [hpe, hpe2, ← hx0]
          exact b2.congr (o _ _ _ (Or.inl (by decide))) (o _ _ _ (Or.inl (by decide))) (o _ _ _ (Or.inl (by decide))) (o _ _ _ (Or.inl (by decide))) (o _ _ _ (Or.inl (by decide))) (fun c w k _ hw => o _ _ _ (Or.inr (by omega)))
        have := LK.ack (s := s1) (p := p' + 1) (u := u) (by omega) (by rw [hpe2, o _ _ _ (Or.inl (by decide))]; exact hu.symm) (by omega) (by rw [hpe, hpe2]; exact hpx') b2'
        rw [hpe, hpe2] at this
        rw [hx0]; exact this
      · have hpx2 : s 0 0 (p' + 1) ≠ x := fun e => hc2 (h5 (p' + 1) p (by omega) (by omega) (by rw [e, hx0]))
        refine b2.congr (E _ _ _ (by decide)) (E _ _ _ (by decide)) (E _ _ _ (by decide)) (by rw [E6, if_neg hpx']) (by rw [E6, if_neg hpx2]) (fun c w k hc hw => Eq _ _ _ (by omega) (fun hp0 => ?_) (by omega))
        have : s 0 0 p' ≠ s 0 0 (p - 1) := fun e => by have := h5 p' (p - 1) (by omega) (by omega) e; omega
        omega
  · rw [E 1 0 0 (by decide), E 0 0 _ (by decide), E 5 _ _ (by decide), E6, if_neg (fun e => by have := h5 (s 1 0 0 - 1) p (by omega) (by omega) (by rw [e, hx0]); omega)]; exact h9
  · rw [E _ _ _ (by decide), w3_c (by decide), h10 i hi j hj]
    exact (valF_congr _ (fun u _ _ => ⟨w3_c (by decide), w3_c (by decide)⟩)).symm
  · rw [E _ _ _ (by decide)] at hp'; rw [E _ _ _ (by decide), E _ _ _ (by decide)] at hu2
    rw [E _ _ _ (by decide), E _ _ _ (by decide), E _ _ _ (by decide), w3_c (by decide), w3_c (by decide)]; exact h11 p' hp' u' hu1 hu2
  · obtain ⟨p', a1, a2⟩ := h13
    exact ⟨p', by rw [E _ _ _ (by decide)]; exact a1, by rw [E _ _ _ (by decide), E _ _ _ (by decide)]; exact a2⟩
