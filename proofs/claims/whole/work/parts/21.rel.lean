/-! THE RELATION BETWEEN THE CLASS'S STATE AND THE REFERENCE'S -/
/-- queue q holds the numbers lo + 1, .., hi -/
def QR (s : CS) (q lo hi : Nat) : Prop := lo ≤ hi ∧ hi ≤ 40 ∧ s 10 q 0 = hi - lo ∧ s 9 q 0 < 40 ∧ ∀ k, k < hi - lo → s 11 q ((s 9 q 0 + k) % 40) = lo + 1 + k
theorem QR.congr {s s' : CS} {q lo hi : Nat} (h : QR s q lo hi) (h9 : s' 9 q 0 = s 9 q 0) (h10 : s' 10 q 0 = s 10 q 0) (h11 : ∀ k, s' 11 q k = s 11 q k) : QR s' q lo hi := by
  obtain ⟨a1, a2, a3, a4, a5⟩ := h
  exact ⟨a1, a2, h10.trans a3, by rw [h9]; exact a4, fun k hk => by rw [h9, h11]; exact a5 k hk⟩
theorem QR.nil {s : CS} {q lo : Nat} (h : s 10 q 0 = 0) (h9 : s 9 q 0 < 40) (hl : lo ≤ 40) : QR s q lo lo := ⟨Nat.le_refl _, hl, by omega, h9, fun k hk => absurd hk (by omega)⟩
theorem QR.put {s : CS} {q lo hi : Nat} (h : QR s q lo hi) (hh : hi < 40) : QR (qput s q (hi + 1)) q lo (hi + 1) := by
  obtain ⟨a1, a2, a3, a4, a5⟩ := h
  have c : s 10 q 0 < 40 := by omega
  have e9 : qput s q (hi + 1) 9 q 0 = s 9 q 0 := by simp [qput, c, w3]
  have e10 : qput s q (hi + 1) 10 q 0 = s 10 q 0 + 1 := by simp [qput, c, w3]
  have e11 : ∀ k, qput s q (hi + 1) 11 q k = if k = (s 9 q 0 + s 10 q 0) % 40 then hi + 1 else s 11 q k := fun k => by simp [qput, c, w3]
  refine ⟨by omega, by omega, by omega, by omega, fun k hk => ?_⟩
  rw [e9, e11]
  by_cases hk2 : k = hi - lo
  · rw [if_pos (by rw [a3, hk2])]; omega
  · rw [if_neg (by omega)]; rw [a5 k (by omega)]
theorem QR.top {s : CS} {q lo hi : Nat} (h : QR s q lo hi) (hl : lo < hi) : s 11 q (s 9 q 0) = lo + 1 := by
  obtain ⟨a1, a2, a3, a4, a5⟩ := h
  have := a5 0 (by omega)
  rw [Nat.add_zero, Nat.mod_eq_of_lt a4] at this
  omega
theorem QR.take {s : CS} {q lo hi : Nat} (h : QR s q lo hi) (hl : lo < hi) : QR (qtake s q) q (lo + 1) hi := by
  obtain ⟨a1, a2, a3, a4, a5⟩ := h
  have e9 : qtake s q 9 q 0 = (s 9 q 0 + 1) % 40 := by simp [qtake, w3]
  have e10 : qtake s q 10 q 0 = s 10 q 0 - 1 := by simp [qtake, w3]
  have e11 : ∀ k, qtake s q 11 q k = s 11 q k := fun k => by simp [qtake, w3]
  refine ⟨by omega, a2, by omega, by omega, fun k hk => ?_⟩
  rw [e9, e11]
  have := a5 (k + 1) (by omega)
  rw [show ((s 9 q 0 + 1) % 40 + k) % 40 = (s 9 q 0 + (k + 1)) % 40 by omega]
  omega
theorem qput_o {s : CS} {q v c i k : Nat} (h : (c ≠ 10 ∧ c ≠ 11) ∨ i ≠ q) : qput s q v c i k = s c i k := by
  unfold qput; split
  · rcases h with ⟨h1, h2⟩ | h
    · simp [w3, h1, h2]
    · simp [w3, h]
  · rfl
theorem lput_o {s : CS} {x w v c i k : Nat} (h : (c ≠ 10 ∧ c ≠ 11) ∨ i ≠ 2 * x + w) : lput s x w v c i k = s c i k := by
  unfold lput; split
  · rfl
  · exact qput_o h
theorem qtake_o {s : CS} {q c i k : Nat} (h : (c ≠ 9 ∧ c ≠ 10) ∨ i ≠ q) : qtake s q c i k = s c i k := by
  unfold qtake
  rcases h with ⟨h1, h2⟩ | h
  · simp [w3, h1, h2]
  · simp [w3, h]
/-- what a link holds -/
def LK (s : CS) (x y : Nat) : Prop := (s 8 x 0 ≠ 0 → QR s (2 * x + 0) (s 5 y 0) (s 5 x 0) ∧ QR s (2 * x + 1) (s 6 x 0) (s 6 y 0)) ∧ (s 8 x 0 = 0 → s 10 (2 * x + 0) 0 = 0 ∧ s 10 (2 * x + 1) 0 = 0)
theorem LK.congr {s s' : CS} {x y : Nat} (h : LK s x y) (h8 : s' 8 x 0 = s 8 x 0) (h5 : s' 5 x 0 = s 5 x 0) (h5' : s' 5 y 0 = s 5 y 0) (h6 : s' 6 x 0 = s 6 x 0) (h6' : s' 6 y 0 = s 6 y 0) (hq : ∀ c w k, c = 9 ∨ c = 10 ∨ c = 11 → w < 2 → s' c (2 * x + w) k = s c (2 * x + w) k) : LK s' x y := by
  refine ⟨fun z => ?_, fun z => ?_⟩
  · obtain ⟨q1, q2⟩ := h.1 (by rw [← h8]; exact z)
    rw [h5, h5', h6, h6']
    exact ⟨q1.congr (hq 9 0 0 (by omega) (by omega)) (hq 10 0 0 (by omega) (by omega)) (fun k => hq 11 0 k (by omega) (by omega)), q2.congr (hq 9 1 0 (by omega) (by omega)) (hq 10 1 0 (by omega) (by omega)) (fun k => hq 11 1 k (by omega) (by omega))⟩
  · obtain ⟨q1, q2⟩ := h.2 (by rw [← h8]; exact z)
    exact ⟨(hq 10 0 0 (by omega) (by omega)).trans q1, (hq 10 1 0 (by omega) (by omega)).trans q2⟩
theorem valF_congr {t t' : CS} {i j : Nat} : ∀ m, (∀ u, 1 ≤ u → u ≤ m → t' 6 0 (41 * i + u) = t 6 0 (41 * i + u) ∧ t' 7 0 (41 * i + u) = t 7 0 (41 * i + u)) → valF t' i j m = valF t i j m
  | 0, _ => rfl
  | m + 1, h => by
    have h1 := h (m + 1) (by omega) (by omega)
    have h2 := valF_congr (j := j) m (fun u hu hm => h u hu (by omega))
    simp only [valF, h1.1, h1.2, h2]
/-- the pairs of the chain -/
def PR (s t : CS) (x y : Nat) : Prop := t 3 0 x = s 8 x 0 ∧ LK s x y ∧ s 5 y 0 ≤ s 5 x 0 ∧ s 6 x 0 ≤ s 6 y 0 ∧ ((s 7 x 0 ≠ 0 ∨ s 7 y 0 ≠ 0) → s 8 x 0 = 0)
def Rl (n : Nat) (s t : CS) : Prop :=
  Sh n s ∧ Mh n t ∧ t 1 0 0 = s 1 0 0 ∧ (∀ k, k < s 1 0 0 → t 0 0 k = s 0 0 k) ∧ (∀ j k, j < s 1 0 0 → k < s 1 0 0 → s 0 0 j = s 0 0 k → j = k) ∧
  (∀ i, i < n → t 2 0 i = s 7 i 0 ∧ t 4 0 i = s 5 i 0 ∧ t 5 0 i = s 6 i 0 ∧ s 6 i 0 ≤ s 5 i 0) ∧ (∀ i, i < n → (∀ k, k < s 1 0 0 → s 0 0 k ≠ i) → s 7 i 0 ≠ 0) ∧
  (∀ p, p + 1 < s 1 0 0 → PR s t (s 0 0 p) (s 0 0 (p + 1))) ∧ s 6 (s 0 0 (s 1 0 0 - 1)) 0 = s 5 (s 0 0 (s 1 0 0 - 1)) 0 ∧
  (∀ i, i < n → ∀ j, j < 8 → s 12 i j = valF t i j (t 4 0 i)) ∧ (∀ p, p < s 1 0 0 → ∀ u, 1 ≤ u → u ≤ s 5 (s 0 0 p) 0 → s 2 0 u = t 6 0 (41 * s 0 0 p + u) ∧ s 3 0 u = t 7 0 (41 * s 0 0 p + u)) ∧
  t 8 0 0 = s 4 0 0 ∧ (∃ p, p < s 1 0 0 ∧ s 7 (s 0 0 p) 0 = 0)
theorem valF_9 {t : CS} {v i j m : Nat} : valF (w3 t 9 0 0 v) i j m = valF t i j m := valF_congr m (fun u _ _ => ⟨w3_c (by decide), w3_c (by decide)⟩)
theorem Rl.t9 {n : Nat} {s t : CS} (h : Rl n s t) (v : Nat) : Rl n s (w3 t 9 0 0 v) := by
  obtain ⟨h1, h2, h3, h4, h5, h6, h7, h8, h9, h10, h11, h12, h13⟩ := h
  refine ⟨h1, h2.m9, by rw [w3_c (by decide)]; exact h3, fun k hk => by rw [w3_c (by decide)]; exact h4 k hk, h5, fun i hi => by rw [w3_c (by decide), w3_c (by decide), w3_c (by decide)]; exact h6 i hi, h7, fun p hp => ?_, h9, fun i hi j hj => ?_, fun p hp u hu hu2 => by rw [w3_c (by decide), w3_c (by decide)]; exact h11 p hp u hu hu2, by rw [w3_c (by decide)]; exact h12, h13⟩
  · obtain ⟨q1, q2⟩ := h8 p hp
    exact ⟨by rw [w3_c (by decide)]; exact q1, q2⟩
  · rw [valF_9, w3_c (by decide)]; exact h10 i hi j hj
/-- histories fall along the chain, acknowledged numbers grow -/
theorem Rl.mono {n : Nat} {s t : CS} (h : Rl n s t) : ∀ j k, j ≤ k → k < s 1 0 0 → s 5 (s 0 0 k) 0 ≤ s 5 (s 0 0 j) 0 ∧ s 6 (s 0 0 j) 0 ≤ s 6 (s 0 0 k) 0 := by
  obtain ⟨h1, h2, h3, h4, h5, h6, h7, h8, h9, h10, h11, h12, h13⟩ := h
  intro j k hjk
  induction k with
  | zero => intro _; obtain rfl : j = 0 := by omega
            exact ⟨Nat.le_refl _, Nat.le_refl _⟩
  | succ k ih =>
    intro hk
    by_cases e : j = k + 1
    · subst e; exact ⟨Nat.le_refl _, Nat.le_refl _⟩
    · have q := ih (by omega) (by omega)
      obtain ⟨-, -, q3, q4, -⟩ := h8 k hk
      exact ⟨by omega, by omega⟩
/-- what is acknowledged at a node, all behind it have applied -/
theorem Rl.ah {n : Nat} {s t : CS} (h : Rl n s t) (j k : Nat) (hj : j < s 1 0 0) (hk : k < s 1 0 0) : s 6 (s 0 0 j) 0 ≤ s 5 (s 0 0 k) 0 := by
  have hl := h.1.len
  have a := (h.mono j (s 1 0 0 - 1) (by omega) (by omega)).2
  have b := (h.mono k (s 1 0 0 - 1) (by omega) (by omega)).1
  have c := h.2.2.2.2.2.2.2.2.1
  omega
