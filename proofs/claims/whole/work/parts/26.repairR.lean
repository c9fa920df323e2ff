theorem R_out {n : Nat} {s t : CS} (hR : Rl n s t) : 1 ≤ (tko s (s 1 0 0)).2 ∧ (tkM (w3 t 9 0 0 0) (t 1 0 0)).2 = (tko s (s 1 0 0)).2 ∧ tlM t = outS s 0 0 (outS s 1 0 0 - 1) ∧ Rk n (outS s) (rM1 t) := by
  have hmono := hR.mono
  have hR0 := hR.t9 0
  unfold rM1 tlM
  have ht1 : t 1 0 0 = s 1 0 0 := hR.2.2.1
  rw [ht1]
  clear ht1 hR
  generalize w3 t 9 0 0 0 = t at hR0
  obtain ⟨h1, h2, h3, h4, h5, h6, h7, h8, h9, h10, h11, h12, h13⟩ := hR0
  have hl := h1.len
  obtain ⟨f, f1, f2, f3, f4⟩ := tko_f s (s 1 0 0)
  obtain ⟨m1, m2⟩ := tkM_e (s := s) (t := t) (L := s 1 0 0) h4 (fun k hk => (h6 _ (h1.ch k (by omega))).1) (s 1 0 0) (Nat.le_refl _)
  have hK : 1 ≤ (tko s (s 1 0 0)).2 := by
    obtain ⟨p, p1, p2⟩ := h13
    obtain ⟨k, k1, _⟩ := f3 p p1 p2
    omega
  have hKL := tko_le s (s 1 0 0)
  have o1 : outS s 1 0 0 = (tko s (s 1 0 0)).2 := w3_eq
  have o0 : ∀ k, outS s 0 0 k = (tko s (s 1 0 0)).1 0 0 k := fun k => w3_c (by decide)
  have E : ∀ c i k, c ≠ 0 ∧ c ≠ 1 → outS s c i k = s c i k := fun c i k h => by unfold outS; rw [w3_c h.2, tko_c h.1]
  have sh' : Sh n (outS s) := h1.out hK
  refine ⟨hK, m1, by rw [o1, o0, m1]; exact m2 _ (by omega), ?_⟩
  rw [m1]
  have T : ∀ c i k, c ≠ 0 ∧ c ≠ 1 → w3 (tkM t (s 1 0 0)).1 1 0 0 (tko s (s 1 0 0)).2 c i k = t c i k := fun c i k h => by rw [w3_c h.2, tkM_c h.1]
  have T1 : w3 (tkM t (s 1 0 0)).1 1 0 0 (tko s (s 1 0 0)).2 1 0 0 = (tko s (s 1 0 0)).2 := w3_eq
  have T0 : ∀ k, k < s 1 0 0 → w3 (tkM t (s 1 0 0)).1 1 0 0 (tko s (s 1 0 0)).2 0 0 k = outS s 0 0 k := fun k hk => by rw [w3_c (by decide), o0]; exact m2 k hk
  have mh' : Mh n (w3 (tkM t (s 1 0 0)).1 1 0 0 (tko s (s 1 0 0)).2) := (h2.tk (by omega)).m1 ⟨hK, by omega⟩
  generalize w3 (tkM t (s 1 0 0)).1 1 0 0 (tko s (s 1 0 0)).2 = t' at *
  have F : ∀ k, k < outS s 1 0 0 → f k < s 1 0 0 ∧ outS s 0 0 k = s 0 0 (f k) ∧ s 7 (s 0 0 (f k)) 0 = 0 := fun k hk => by rw [o0]; rw [o1] at hk; exact f1 k hk
  rw [← o1] at f2 f3 hK hKL T1
  have fm : ∀ j k, j < k → k < outS s 1 0 0 → f j < f k := fun j k hjk hk => by
    induction k with
    | zero => omega
    | succ k ih =>
      have a := (f2 k hk).1
      by_cases e : j = k
      · subst e; exact a
      · have := ih (by omega) (by omega); omega
  clear o0 o1 m1 m2 f1 f4
  generalize outS s = s' at *
  refine ⟨sh', mh', T1, fun k hk => T0 k (by omega), fun j k hj hk e => ?_, fun i hi => ?_, fun i hi hk => ?_, fun p hp => ?_, fun i hi j hj => ?_, fun p hp u hu1 hu2 => ?_, ?_, ?_⟩
  · obtain ⟨a1, a2, -⟩ := F j hj
    obtain ⟨b1, b2, -⟩ := F k hk
    rw [a2, b2] at e
    have := h5 _ _ a1 b1 e
    rcases Nat.lt_trichotomy j k with q | q | q
    · have := fm j k q hk; omega
    · exact q
    · have := fm k j q hj; omega
  · rw [T _ _ _ (by decide), T _ _ _ (by decide), T _ _ _ (by decide), E _ _ _ (by decide), E _ _ _ (by decide), E _ _ _ (by decide)]; exact h6 i hi
  · rw [E _ _ _ (by decide)]
    intro h0
    by_cases hin : ∃ k, k < s 1 0 0 ∧ s 0 0 k = i
    · obtain ⟨k, k1, k2⟩ := hin
      subst k2
      obtain ⟨k', q1, q2⟩ := f3 k k1 h0
      exact hk k' q1 (by rw [(F k' q1).2.1, q2])
    · exact h7 i hi (fun k hk e => hin ⟨k, hk, e⟩) h0
  · obtain ⟨a1, a2, a3⟩ := F p (by omega)
    obtain ⟨b1, b2, b3⟩ := F (p + 1) hp
    obtain ⟨g1, g2⟩ := f2 p hp
    rw [a2, b2]
    have hm := hmono (f p) (f (p + 1)) (by omega) b1
    by_cases e : f (p + 1) = f p + 1
    · rw [e]
      obtain ⟨c1, c2, c3, c4, c5⟩ := h8 (f p) (by omega)
      exact ⟨by rw [T _ _ _ (by decide), E _ _ _ (by decide)]; exact c1, c2.congr (E _ _ _ (by decide)) (E _ _ _ (by decide)) (E _ _ _ (by decide)) (E _ _ _ (by decide)) (E _ _ _ (by decide)) (fun c w k hc _ => E _ _ _ (by omega)), by rw [E _ _ _ (by decide), E _ _ _ (by decide)]; exact c3, by rw [E _ _ _ (by decide), E _ _ _ (by decide)]; exact c4, by rw [E _ _ _ (by decide), E _ _ _ (by decide), E _ _ _ (by decide)]; exact c5⟩
    · obtain ⟨c1, c2, c3, c4, c5⟩ := h8 (f p) (by omega)
      have z := c5 (Or.inr (g2 (f p + 1) (by omega) (by omega)))
      obtain ⟨z1, z2⟩ := c2.2 z
      have z' : s' 8 (s 0 0 (f p)) 0 = 0 := (E _ _ _ (by decide)).trans z
      exact ⟨by rw [T _ _ _ (by decide), z']; exact c1.trans z, ⟨fun q => absurd z' q, fun _ => ⟨(E _ _ _ (by decide)).trans z1, (E _ _ _ (by decide)).trans z2⟩⟩, by rw [E _ _ _ (by decide), E _ _ _ (by decide)]; exact hm.1, by rw [E _ _ _ (by decide), E _ _ _ (by decide)]; exact hm.2, fun _ => z'⟩
  · rw [E _ _ _ (by decide), h10 i hi j hj, T 4 _ _ (by decide)]
    exact (valF_congr _ (fun u _ _ => ⟨T _ _ _ (by decide), T _ _ _ (by decide)⟩)).symm
  · obtain ⟨a1, a2, a3⟩ := F p hp
    rw [E 5 _ _ (by decide), a2] at hu2
    rw [E 2 _ _ (by decide), E 3 _ _ (by decide), a2, T 6 _ _ (by decide), T 7 _ _ (by decide)]
    exact h11 _ a1 u hu1 hu2
  · rw [T _ _ _ (by decide), E _ _ _ (by decide)]; exact h12
  · exact ⟨0, by omega, by rw [E _ _ _ (by decide), (F 0 (by omega)).2.1]; exact (F 0 (by omega)).2.2⟩
theorem R_repair {n : Nat} {s t : CS} (hR : Rl n s t) : 1 ≤ (tko s (s 1 0 0)).2 ∧ (tkM (w3 t 9 0 0 0) (t 1 0 0)).2 = outS s 1 0 0 ∧ (outS s) 6 ((outS s) 0 0 ((outS s) 1 0 0 - 1)) 0 ≤ (outS s) 5 ((outS s) 0 0 ((outS s) 1 0 0 - 1)) 0 ∧ Rl n (repS s) (repM t) := by
  obtain ⟨a1, a2, a3, a4⟩ := R_out hR
  have o1 : outS s 1 0 0 = (tko s (s 1 0 0)).2 := w3_eq
  have hl := a4.1.len
  have hx := a4.1.ch (outS s 1 0 0 - 1) (by omega)
  have hle := (a4.2.2.2.2.2.1 _ hx).2.2.2
  obtain ⟨h1, h2, h3, h4, h5, h6, h7, h8, h9, h10, h11, h12, h13⟩ := id hR
  have hl1 := h1.len
  refine ⟨a1, a2.trans o1.symm, hle, ?_⟩
  have e5 : ∀ i, outS s 5 i 0 = s 5 i 0 := fun i => by unfold outS; rw [w3_c (by decide), tko_c (by decide)]
  have e6 : ∀ i, outS s 6 i 0 = s 6 i 0 := fun i => by unfold outS; rw [w3_c (by decide), tko_c (by decide)]
  unfold repS repM
  rw [a3, h3, h4 _ (by omega), (h6 _ hx).2.1, (h6 _ hx).2.2.1]
  by_cases e : outS s 0 0 (outS s 1 0 0 - 1) = s 0 0 (s 1 0 0 - 1)
  · rw [if_pos e, if_neg (fun q => q.1 e)]
    exact a4.of (by rw [e5, e6, e]; exact h9)
  · rw [if_neg e]
    have := R_all a4
    rw [e5, e6] at this
    by_cases hlt : s 6 (outS s 0 0 (outS s 1 0 0 - 1)) 0 < s 5 (outS s 0 0 (outS s 1 0 0 - 1)) 0
    · rw [if_pos hlt] at this; rw [if_pos ⟨e, hlt⟩]; exact this
    · rw [if_neg hlt] at this; rw [if_neg (fun q => hlt q.2)]; exact this
/-! LAG -/
theorem lag_e {s t : CS} {L : Nat} (h0 : ∀ k, k < L → t 0 0 k = s 0 0 k) (h2 : ∀ k, k < L → t 2 0 (s 0 0 k) = s 7 (s 0 0 k) 0) (h4 : ∀ k, k < L → t 4 0 (s 0 0 k) = s 5 (s 0 0 k) 0) : ∀ m, m ≤ L → lagM t m = lagF s m
  | 0, _ => rfl
  | m + 1, hm => by
    rw [lagM, lagF, lag_e h0 h2 h4 m (by omega), h0 m (by omega), h2 m (by omega), h4 m (by omega)]
theorem lag_pos {s : CS} {i : Nat} (h : s 7 (s 0 0 i) 0 = 0) : ∀ m, i < m → (lagF s m).1 ≠ 0
  | 0, hm => absurd hm (by omega)
  | m + 1, hm => by
    by_cases e : s 7 (s 0 0 m) 0 = 0
    · rw [lagF, if_pos e]; simp
    · rw [lagF, if_neg e]
      exact lag_pos h m (by
        by_cases q : i = m
        · subst q; exact absurd h e
        · omega)
theorem R_lag {n : Nat} {s t : CS} (hR : Rl n s t) : lagM t (t 1 0 0) = lagF s (s 1 0 0) ∧ (lagF s (s 1 0 0)).1 ≠ 0 ∧ (lagF s (s 1 0 0)).1 < 7 ∧ (lagF s (s 1 0 0)).2.2 < 241 := by
  obtain ⟨h1, h2, h3, h4, h5, h6, h7, h8, h9, h10, h11, h12, p, hp, hp2⟩ := hR
  have hl := h1.len
  have n6 := h2.2.1.1
  have hb := (lagF_b s (fun _ => Or.inr trivial) (s 1 0 0) (fun j hj => (h1.nd _ (h1.ch j (by omega))).1)).1
  have hc := lagF_c s (s 1 0 0)
  refine ⟨?_, lag_pos hp2 _ hp, by omega, by omega⟩
  rw [h3]
  exact lag_e h4 (fun k hk => (h6 _ (h1.ch k (by omega))).1) (fun k hk => (h6 _ (h1.ch k (by omega))).2.1) _ (Nat.le_refl _)
/-! THE BEGINNING -/
theorem Sh.init {n : Nat} (hn : 1 ≤ n ∧ n ≤ 6) : Sh n (iS n n) := by
  refine ⟨by simp [iS]; omega, fun k hk => by simp [iS, hk], fun i hi => by simp [iS], fun q hq => by simp [iS], fun u hu => by simp [iS], by simp [iS], fun q k _ _ => by simp [iS]⟩
theorem Mh.init {n : Nat} (hn : 1 ≤ n ∧ n ≤ 6) : Mh n (mS n n) := by
  refine ⟨by simp [mS]; omega, by simp [mS]; omega, fun k hk => by simp [mS]; split <;> omega, fun i hi => by simp [mS]; split <;> omega, fun k => by simp [mS], by simp [mS]⟩
theorem R_init {n : Nat} (hn : 1 ≤ n ∧ n ≤ 6) : Rl n (iS n n) (mS n n) := by
  have e1 : iS n n 1 0 0 = n := by simp [iS]
  have e0 : ∀ k, k < n → iS n n 0 0 k = k := fun k hk => by simp [iS, hk]
  have ez : ∀ c i k, c ≠ 0 ∧ c ≠ 1 ∧ c ≠ 8 → iS n n c i k = 0 := fun c i k h => by simp [iS, h]
  have t1 : mS n n 1 0 0 = n := by simp [mS]
  have t0 : ∀ k, k < n → mS n n 0 0 k = k := fun k hk => by simp [mS, hk]
  have tz : ∀ c i k, c ≠ 0 ∧ c ≠ 1 ∧ c ≠ 3 ∧ c ≠ 10 → mS n n c i k = 0 := fun c i k h => by simp [mS, h]
  refine ⟨Sh.init hn, Mh.init hn, by rw [e1, t1], fun k hk => by rw [e1] at hk; rw [t0 k hk, e0 k hk], fun j k hj hk e => by rw [e1] at hj hk; rw [e0 j hj, e0 k hk] at e; exact e, fun i hi => by rw [tz _ _ _ (by decide), tz _ _ _ (by decide), tz _ _ _ (by decide), ez _ _ _ (by decide), ez _ _ _ (by decide), ez _ _ _ (by decide)]; exact ⟨rfl, rfl, rfl, Nat.le_refl _⟩, fun i hi h => absurd (e0 i hi) (h i (by rw [e1]; exact hi)), fun p hp => ?_, by rw [ez _ _ _ (by decide), ez _ _ _ (by decide)], fun i hi j hj => by rw [tz 4 _ _ (by decide), ez _ _ _ (by decide)]; rfl, fun p hp u hu1 hu2 => by rw [ez 5 _ _ (by decide)] at hu2; omega, by rw [tz _ _ _ (by decide), ez _ _ _ (by decide)], ⟨0, by rw [e1]; omega, ez _ _ _ (by decide)⟩⟩
  rw [e1] at hp
  rw [e0 p (by omega), e0 (p + 1) (by omega)]
  have e8 : ∀ i, iS n n 8 i 0 = 1 := fun i => by simp [iS]
  refine ⟨by rw [e8]; simp [mS]; omega, ⟨fun _ => ⟨?_, ?_⟩, fun z => by rw [e8] at z; omega⟩, by rw [ez _ _ _ (by decide), ez _ _ _ (by decide)]; exact Nat.le_refl _, by rw [ez _ _ _ (by decide), ez _ _ _ (by decide)]; exact Nat.le_refl _, fun z => by rw [ez _ _ _ (by decide), ez _ _ _ (by decide)] at z; omega⟩
  · rw [ez 5 _ _ (by decide), ez 5 _ _ (by decide)]; exact QR.nil (ez _ _ _ (by decide)) (by rw [ez _ _ _ (by decide)]; decide) (by decide)
  · rw [ez 6 _ _ (by decide), ez 6 _ _ (by decide)]; exact QR.nil (ez _ _ _ (by decide)) (by rw [ez _ _ _ (by decide)]; decide) (by decide)
