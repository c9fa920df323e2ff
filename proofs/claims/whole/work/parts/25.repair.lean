/-! REPAIR KEEPS THE RELATION -/
/-- the relation without the tail's clause -/
def Rk (n : Nat) (s t : CS) : Prop :=
  Sh n s ∧ Mh n t ∧ t 1 0 0 = s 1 0 0 ∧ (∀ k, k < s 1 0 0 → t 0 0 k = s 0 0 k) ∧ (∀ j k, j < s 1 0 0 → k < s 1 0 0 → s 0 0 j = s 0 0 k → j = k) ∧
  (∀ i, i < n → t 2 0 i = s 7 i 0 ∧ t 4 0 i = s 5 i 0 ∧ t 5 0 i = s 6 i 0 ∧ s 6 i 0 ≤ s 5 i 0) ∧ (∀ i, i < n → (∀ k, k < s 1 0 0 → s 0 0 k ≠ i) → s 7 i 0 ≠ 0) ∧
  (∀ p, p + 1 < s 1 0 0 → PR s t (s 0 0 p) (s 0 0 (p + 1))) ∧
  (∀ i, i < n → ∀ j, j < 8 → s 12 i j = valF t i j (t 4 0 i)) ∧ (∀ p, p < s 1 0 0 → ∀ u, 1 ≤ u → u ≤ s 5 (s 0 0 p) 0 → s 2 0 u = t 6 0 (41 * s 0 0 p + u) ∧ s 3 0 u = t 7 0 (41 * s 0 0 p + u)) ∧
  t 8 0 0 = s 4 0 0 ∧ (∃ p, p < s 1 0 0 ∧ s 7 (s 0 0 p) 0 = 0)
theorem Rk.of {n : Nat} {s t : CS} (h : Rk n s t) (h9 : s 6 (s 0 0 (s 1 0 0 - 1)) 0 = s 5 (s 0 0 (s 1 0 0 - 1)) 0) : Rl n s t := by
  obtain ⟨h1, h2, h3, h4, h5, h6, h7, h8, h10, h11, h12, h13⟩ := h
  exact ⟨h1, h2, h3, h4, h5, h6, h7, h8, h9, h10, h11, h12, h13⟩
theorem ackN_6 {s : CS} {p v i : Nat} : ∀ j, ackN s p v j 6 i 0 = if 0 < j ∧ i = s 0 0 p then v + j else s 6 i 0
  | 0 => by simp [ackN]
  | j + 1 => by
    rw [ackN, ak_6, ackN_6 j, ackN_c (by decide)]
    by_cases e : i = s 0 0 p
    · simp [e]; omega
    · simp [e]
theorem ackN_4 {s : CS} {p v : Nat} (hp : p + 1 = s 1 0 0) : ∀ j, ackN s p v j 4 0 0 = if 0 < j then v + j else s 4 0 0
  | 0 => by simp [ackN]
  | j + 1 => by
    rw [ackN, ak_4, ackN_c (by decide), if_pos hp, if_pos (by omega)]; omega
theorem ackN_q {s : CS} {p v c q k : Nat} (hc : c ≠ 4 ∧ c ≠ 6) (h : 0 < p → q ≠ 2 * s 0 0 (p - 1) + 1) : ∀ j, ackN s p v j c q k = s c q k
  | 0 => rfl
  | j + 1 => by rw [ackN, ak_q hc (by rw [ackN_c (by decide)]; exact h), ackN_q hc h j]
theorem ackN_shut {s : CS} {p v c q k : Nat} (hc : c ≠ 4 ∧ c ≠ 6) (h8 : 0 < p → s 8 (s 0 0 (p - 1)) 0 = 0) : ∀ j, ackN s p v j c q k = s c q k
  | 0 => rfl
  | j + 1 => by rw [ackN, ak_shut hc (by rw [ackN_c (by decide), ackN_c (by decide)]; exact h8), ackN_shut hc h8 j]
theorem ackN_put {s : CS} {p v lo : Nat} (hp : 0 < p) (h8 : s 8 (s 0 0 (p - 1)) 0 ≠ 0) (h : QR s (2 * s 0 0 (p - 1) + 1) lo v) : ∀ j, v + j ≤ 40 → QR (ackN s p v j) (2 * s 0 0 (p - 1) + 1) lo (v + j)
  | 0, _ => h
  | j + 1, hj => by
    have e : ackN s p v j 0 0 (p - 1) = s 0 0 (p - 1) := ackN_c (by decide) _
    have := ak_put (s := ackN s p v j) (p := p) (lo := lo) (hi := v + j) hp (by rw [e, ackN_c (by decide)]; exact h8) (by rw [e]; exact ackN_put hp h8 h j (by omega)) (by omega)
    rw [e] at this
    exact this
/-- a new tail acknowledges all that it has -/
theorem R_all {n : Nat} {s t : CS} (h : Rk n s t) : Rl n (ackAll s) (if s 6 (s 0 0 (s 1 0 0 - 1)) 0 < s 5 (s 0 0 (s 1 0 0 - 1)) 0 then w3 (w3 t 5 0 (s 0 0 (s 1 0 0 - 1)) (s 5 (s 0 0 (s 1 0 0 - 1)) 0)) 8 0 0 (s 5 (s 0 0 (s 1 0 0 - 1)) 0) else t) := by
  obtain ⟨h1, h2, h3, h4, h5, h6, h7, h8, h10, h11, h12, h13⟩ := id h
  have hl := h1.len
  have hx := h1.ch (s 1 0 0 - 1) (by omega)
  have hle := (h6 _ hx).2.2.2
  have nx := h1.nd _ hx
  by_cases hlt : s 6 (s 0 0 (s 1 0 0 - 1)) 0 < s 5 (s 0 0 (s 1 0 0 - 1)) 0
  · rw [if_pos hlt]
    have E : ∀ c i k, c ≠ 10 ∧ c ≠ 11 ∧ c ≠ 6 ∧ c ≠ 4 → ackAll s c i k = s c i k := fun c i k h => ackN_c h _
    have E6 : ∀ i, ackAll s 6 i 0 = if i = s 0 0 (s 1 0 0 - 1) then s 5 (s 0 0 (s 1 0 0 - 1)) 0 else s 6 i 0 := fun i => by
      unfold ackAll; rw [ackN_6]
      by_cases e : i = s 0 0 (s 1 0 0 - 1)
      · rw [if_pos ⟨by omega, e⟩, if_pos e]; omega
      · rw [if_neg (fun q => e q.2), if_neg e]
    have E4 : ackAll s 4 0 0 = s 5 (s 0 0 (s 1 0 0 - 1)) 0 := by
      unfold ackAll; rw [ackN_4 (by omega), if_pos (by omega)]; omega
    have EQ : ∀ c q k, c ≠ 4 ∧ c ≠ 6 → (0 < s 1 0 0 - 1 → q ≠ 2 * s 0 0 (s 1 0 0 - 1 - 1) + 1) → ackAll s c q k = s c q k := fun c q k hc hq => ackN_q hc hq _
    have ES : ∀ c q k, c ≠ 4 ∧ c ≠ 6 → (0 < s 1 0 0 - 1 → s 8 (s 0 0 (s 1 0 0 - 1 - 1)) 0 = 0) → ackAll s c q k = s c q k := fun c q k hc hq => ackN_shut hc hq _
    have EP : 0 < s 1 0 0 - 1 → s 8 (s 0 0 (s 1 0 0 - 1 - 1)) 0 ≠ 0 → ∀ lo, QR s (2 * s 0 0 (s 1 0 0 - 1 - 1) + 1) lo (s 6 (s 0 0 (s 1 0 0 - 1)) 0) → QR (ackAll s) (2 * s 0 0 (s 1 0 0 - 1 - 1) + 1) lo (s 5 (s 0 0 (s 1 0 0 - 1)) 0) := fun a1 a2 lo a3 => by
      have := ackN_put a1 a2 a3 (s 5 (s 0 0 (s 1 0 0 - 1)) 0 - s 6 (s 0 0 (s 1 0 0 - 1)) 0) (by omega)
      rw [show s 6 (s 0 0 (s 1 0 0 - 1)) 0 + (s 5 (s 0 0 (s 1 0 0 - 1)) 0 - s 6 (s 0 0 (s 1 0 0 - 1)) 0) = s 5 (s 0 0 (s 1 0 0 - 1)) 0 by omega] at this
      exact this
    have sh' : Sh n (ackAll s) := h1.an (by omega)
    generalize ackAll s = s' at *
    generalize hxx : s 0 0 (s 1 0 0 - 1) = x at *
    refine ⟨sh', (h2.m5 (by omega)).m8 (by omega), by rw [w3_c (by decide), w3_c (by decide), E 1 _ _ (by decide)]; exact h3, fun k hk => ?_, fun j k hj hk => ?_, fun i hi => ?_, fun i hi hk => ?_, fun p' hp' => ?_, ?_, fun i hi j hj => ?_, fun p' hp' u' hu1' hu2' => ?_, ?_, ?_⟩
    · rw [E 1 _ _ (by decide)] at hk; rw [w3_c (by decide), w3_c (by decide), E 0 _ _ (by decide)]; exact h4 k hk
    · rw [E 1 _ _ (by decide)] at hj hk; rw [E 0 _ _ (by decide), E 0 _ _ (by decide)]; exact h5 j k hj hk
    · obtain ⟨a1, a2, a3, a4⟩ := h6 i hi
      rw [w3_c (by decide), w3_c (by decide), w3_c (by decide), w3_c (by decide), w3_c (by decide), E 7 _ _ (by decide), E 5 _ _ (by decide), E6]
      by_cases e : i = x
      · subst e; rw [w3_eq, if_pos rfl]; exact ⟨a1, a2, rfl, Nat.le_refl _⟩
      · rw [w3_k e, if_neg e]; exact ⟨a1, a2, a3, a4⟩
    · rw [E 7 _ _ (by decide)]
      refine h7 i hi (fun k hk2 => ?_)
      have := hk k (by rw [E 1 _ _ (by decide)]; exact hk2); rw [E 0 _ _ (by decide)] at this; exact this
    · rw [E 1 _ _ (by decide)] at hp'; rw [E 0 _ _ (by decide), E 0 _ _ (by decide)]
      obtain ⟨b1, b2, b3, b4, b5⟩ := h8 p' hp'
      have hd : s 0 0 p' ≠ x := fun e => by have := h5 p' (s 1 0 0 - 1) (by omega) (by omega) (e.trans hxx.symm); omega
      have e8 : s' 8 (s 0 0 p') 0 = s 8 (s 0 0 p') 0 := E _ _ _ (by decide)
      refine ⟨by rw [w3_c (by decide), w3_c (by decide), e8]; exact b1, ?_, by rw [E 5 _ _ (by decide), E 5 _ _ (by decide)]; exact b3, ?_, by rw [E 7 _ _ (by decide), E 7 _ _ (by decide), e8]; exact b5⟩
      · by_cases c1 : p' + 1 = s 1 0 0 - 1
        · have ep : s 1 0 0 - 1 - 1 = p' := by omega
          rw [ep] at EP EQ ES
          rw [c1, hxx] at b2 ⊢
          refine ⟨fun z => ?_, fun z => ?_⟩
          · rw [e8] at z
            obtain ⟨q1, q2⟩ := b2.1 z
            rw [E6, E6, if_neg hd, if_pos rfl, E 5 _ _ (by decide), E 5 _ _ (by decide)]
            exact ⟨q1.congr (EQ _ _ _ (by decide) (fun _ => by omega)) (EQ _ _ _ (by decide) (fun _ => by omega)) (fun k => EQ _ _ _ (by decide) (fun _ => by omega)), EP (by omega) z _ q2⟩
          · rw [e8] at z
            obtain ⟨q1, q2⟩ := b2.2 z
            exact ⟨(ES _ _ _ (by decide) (fun _ => z)).trans q1, (ES _ _ _ (by decide) (fun _ => z)).trans q2⟩
        · have hd2 : s 0 0 (p' + 1) ≠ x := fun e => by have := h5 (p' + 1) (s 1 0 0 - 1) hp' (by omega) (e.trans hxx.symm); omega
          refine b2.congr e8 (E _ _ _ (by decide)) (E _ _ _ (by decide)) (by rw [E6, if_neg hd]) (by rw [E6, if_neg hd2]) (fun c w k hc hw => EQ _ _ _ (by omega) (fun h0 => ?_))
          have : s 0 0 p' ≠ s 0 0 (s 1 0 0 - 1 - 1) := fun e => by have := h5 p' (s 1 0 0 - 1 - 1) (by omega) (by omega) e; omega
          omega
      · rw [E6, E6, if_neg hd]
        by_cases c1 : s 0 0 (p' + 1) = x
        · rw [if_pos c1]; rw [c1] at b4; omega
        · rw [if_neg c1]; exact b4
    · rw [E 1 _ _ (by decide), E 0 _ _ (by decide), hxx, E6, if_pos rfl, E 5 _ _ (by decide)]
    · rw [E 12 _ _ (by decide), h10 i hi j hj, w3_c (by decide), w3_c (by decide)]
      exact (valF_congr _ (fun u _ _ => ⟨by rw [w3_c (by decide), w3_c (by decide)], by rw [w3_c (by decide), w3_c (by decide)]⟩)).symm
    · rw [E 1 _ _ (by decide)] at hp'
      rw [E 0 _ _ (by decide), E 5 _ _ (by decide)] at hu2'
      rw [E 0 _ _ (by decide), E 2 _ _ (by decide), E 3 _ _ (by decide), w3_c (by decide), w3_c (by decide), w3_c (by decide), w3_c (by decide)]
      exact h11 p' hp' u' hu1' hu2'
    · rw [w3_eq, E4]
    · obtain ⟨k, k1, k2⟩ := h13
      exact ⟨k, by rw [E 1 _ _ (by decide)]; exact k1, by rw [E 0 _ _ (by decide), E 7 _ _ (by decide)]; exact k2⟩
  · rw [if_neg hlt]
    have e : ackAll s = s := by
      unfold ackAll
      rw [show s 5 (s 0 0 (s 1 0 0 - 1)) 0 - s 6 (s 0 0 (s 1 0 0 - 1)) 0 = 0 by omega]; rfl
    rw [e]; exact h.of (by omega)
/-- what is left of the chain -/
theorem tko_f (s : CS) : ∀ m, ∃ f : Nat → Nat, (∀ k, k < (tko s m).2 → f k < m ∧ (tko s m).1 0 0 k = s 0 0 (f k) ∧ s 7 (s 0 0 (f k)) 0 = 0) ∧
    (∀ k, k + 1 < (tko s m).2 → f k < f (k + 1) ∧ ∀ j, f k < j → j < f (k + 1) → s 7 (s 0 0 j) 0 ≠ 0) ∧ (∀ j, j < m → s 7 (s 0 0 j) 0 = 0 → ∃ k, k < (tko s m).2 ∧ f k = j) ∧
    (0 < (tko s m).2 → ∀ j, f ((tko s m).2 - 1) < j → j < m → s 7 (s 0 0 j) 0 ≠ 0)
  | 0 => ⟨fun _ => 0, fun k hk => absurd hk (by simp [tko]), fun k hk => absurd hk (by simp [tko]), fun j hj => absurd hj (by omega), fun h => absurd h (by simp [tko])⟩
  | m + 1 => by
    obtain ⟨f, f1, f2, f3, f4⟩ := tko_f s m
    have hle := tko_le s m
    by_cases e : s 7 (s 0 0 m) 0 = 0
    · have e2 : tko s (m + 1) = (w3 (tko s m).1 0 0 (tko s m).2 (s 0 0 m), (tko s m).2 + 1) := by rw [tko, if_pos e]
      generalize hK : (tko s m).2 = K at *
      rw [e2]
      refine ⟨fun k => if k = K then m else f k, fun k hk => ?_, fun k hk => ?_, fun j hj h0 => ?_, fun _ j hj1 hj2 => ?_⟩
      · by_cases ek : k = K
        · subst ek; simp only [if_true, w3_eq]; exact ⟨by omega, trivial, e⟩
        · simp only [if_neg ek, w3_k ek]
          have := f1 k (by have : k < K + 1 := hk; omega)
          exact ⟨by omega, this.2⟩
      · have hk' : k + 1 < K + 1 := hk
        have ek : k ≠ K := by omega
        simp only [if_neg ek]
        by_cases ek2 : k + 1 = K
        · simp only [if_pos ek2]
          refine ⟨(f1 k (by omega)).1, fun j hj1 hj2 => f4 (by omega) j ?_ hj2⟩
          rw [← ek2, Nat.add_sub_cancel]; exact hj1
        · simp only [if_neg ek2]; exact f2 k (by omega)
      · by_cases ej : j = m
        · exact ⟨K, Nat.lt_succ_self _, by simp [ej]⟩
        · obtain ⟨k, k1, k2⟩ := f3 j (by omega) h0
          exact ⟨k, by show k < K + 1; omega, by simp only [if_neg (show k ≠ K by omega)]; exact k2⟩
      · have : (if K + 1 - 1 = K then m else f (K + 1 - 1)) < j := hj1
        rw [if_pos (by omega)] at this; omega
    · have e2 : tko s (m + 1) = tko s m := by rw [tko, if_neg e]
      rw [e2]
      refine ⟨f, fun k hk => ⟨by have := (f1 k hk).1; omega, (f1 k hk).2⟩, f2, fun j hj h0 => ?_, fun hK j hj1 hj2 => ?_⟩
      · by_cases ej : j = m
        · subst ej; exact absurd h0 e
        · exact f3 j (by omega) h0
      · by_cases ej : j = m
        · subst ej; exact e
        · exact f4 hK j hj1 (by omega)
theorem tkM_e {s t : CS} {L : Nat} (h0 : ∀ k, k < L → t 0 0 k = s 0 0 k) (h2 : ∀ k, k < L → t 2 0 (s 0 0 k) = s 7 (s 0 0 k) 0) : ∀ m, m ≤ L → (tkM t m).2 = (tko s m).2 ∧ ∀ k, k < L → (tkM t m).1 0 0 k = (tko s m).1 0 0 k
  | 0, _ => ⟨rfl, h0⟩
  | m + 1, hm => by
    obtain ⟨a1, a2⟩ := tkM_e h0 h2 m (by omega)
    by_cases e : s 7 (s 0 0 m) 0 = 0
    · have e2 : tko s (m + 1) = (w3 (tko s m).1 0 0 (tko s m).2 (s 0 0 m), (tko s m).2 + 1) := by rw [tko, if_pos e]
      have e3 : tkM t (m + 1) = (w3 (tkM t m).1 0 0 (tkM t m).2 (t 0 0 m), (tkM t m).2 + 1) := by rw [tkM, if_pos (by rw [h0 m (by omega), h2 m (by omega)]; exact e)]
      rw [e2, e3, a1]
      refine ⟨rfl, fun k hk => ?_⟩
      by_cases ek : k = (tko s m).2
      · simp only [ek, w3_eq]; exact h0 m (by omega)
      · simp only [w3_k ek]; exact a2 k hk
    · have e2 : tko s (m + 1) = tko s m := by rw [tko, if_neg e]
      have e3 : tkM t (m + 1) = tkM t m := by rw [tkM, if_neg (by rw [h0 m (by omega), h2 m (by omega)]; exact e)]
      rw [e2, e3]; exact ⟨a1, a2⟩
