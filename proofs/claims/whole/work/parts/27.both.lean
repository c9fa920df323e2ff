/-! BOTH SIDES OF A CALL -/
def WP (l : Launch) (g : GG) (sa a : Nat → Nat) (n : Nat) (s : CS) (y : MethodName) (ws : List Cond) (av : List Value) (k : Nat) (s' : CS) (c : Int64) : Prop :=
  ∀ (A : Nat → Prop) (o sz : Nat) (f : Nat → Int64), Ap A a (5 + 7 * n) → A o → (∀ k, k < 5 + 7 * n → a k ≠ o) → (∀ q, sz ≤ q → A q) → ∃ (rm : Room) (f' : Nat → Int64), (rm.cells = 1 ∧ rm.slots = 6 ∧ rm.frames ≤ 7 ∧ rm.locals ≤ 200) ∧ (k = 0 → f' 0 = c) ∧ Met l y ws rm (pW g sa A (.ref (a 0) :: (av ++ [.ref o])) a n s o f sz) (qW g (nI k) a n s' o f' A) 1 6 A
def MP (l : Launch) (g : GG) (am : Nat → Nat) (t : CS) (y : MethodName) (ws : List Cond) (av : List Value) (b : Int32) (t' : CS) : Prop :=
  ∀ A : Nat → Prop, Ap A am 8 → ∃ rm : Room, (rm.cells = 0 ∧ rm.slots = 0 ∧ rm.frames ≤ 7 ∧ rm.locals ≤ 200) ∧ Met l y ws rm (pC g (.ref (am 0) :: av) (wM g am t)) (qI g b (wM g am t') A) 0 0 A
def OpP (l : Launch) (g : GG) (sa a am : Nat → Nat) (n : Nat) (s t : CS) (yW : MethodName) (wsW : List Cond) (yM : MethodName) (wsM : List Cond) (av : List Value) (cv : Int32 → Int64) : Prop :=
  ∃ (k : Nat) (s' t' : CS) (b : Int32), k ≤ 3 ∧ Rl n s' t' ∧ t' 9 0 0 = k ∧ WP l g sa a n s yW wsW av k s' (cv b) ∧ MP l g am t yM wsM av b t'
theorem nI_all (x : Int32) : ∃ v : Nat, x = nI v := ⟨x.toBitVec.toNat, by
  have := pk_and x (m := -1) 32 (by decide)
  rw [Nat.mod_eq_of_lt x.toBitVec.isLt] at this
  rw [← this]
  exact (Int32.and_neg_one).symm⟩
theorem Rl.pos {n : Nat} {s t : CS} (hR : Rl n s t) {nd : Nat} (hnd : nd < n) : (∃ p, p < s 1 0 0 ∧ s 0 0 p = nd ∧ (∀ k, k < p → s 0 0 k ≠ nd) ∧ p < t 1 0 0 ∧ t 0 0 p = nd ∧ ∀ k, k < t 1 0 0 → k ≠ p → t 0 0 k ≠ nd) ∨ ((∀ k, k < s 1 0 0 → s 0 0 k ≠ nd) ∧ (∀ k, k < t 1 0 0 → t 0 0 k ≠ nd) ∧ s 7 nd 0 ≠ 0 ∧ t 2 0 nd ≠ 0) := by
  obtain ⟨h1, h2, h3, h4, h5, h6, h7, h8, h9, h10, h11, h12, h13⟩ := hR
  by_cases hin : ∃ p, p < s 1 0 0 ∧ s 0 0 p = nd
  · obtain ⟨p, hp, e⟩ := hin
    refine Or.inl ⟨p, hp, e, fun k hk e2 => ?_, by omega, by rw [h4 p hp]; exact e, fun k hk hkp e2 => ?_⟩
    · have := h5 k p (by omega) hp (e2.trans e.symm); omega
    · rw [h3] at hk; rw [h4 k hk] at e2
      exact hkp (h5 k p hk hp (e2.trans e.symm))
  · have hno : ∀ k, k < s 1 0 0 → s 0 0 k ≠ nd := fun k hk e => hin ⟨k, hk, e⟩
    have hf := h7 nd hnd hno
    exact Or.inr ⟨hno, fun k hk => by rw [h3] at hk; rw [h4 k hk]; exact hno k hk, hf, by rw [(h6 nd hnd).1]; exact hf⟩
theorem Rl.U {n : Nat} {s t : CS} (hR : Rl n s t) {p nd : Nat} (hp : p < s 1 0 0) (hpe : s 0 0 p = nd) : (if 0 < p ∧ t 3 0 (t 0 0 (p - 1)) ≠ 0 then t 4 0 (t 0 0 (p - 1)) - t 4 0 nd else 0) = (if 0 < p then s 10 (2 * s 0 0 (p - 1) + 0) 0 else 0) ∧ (0 < p → t 4 0 nd ≤ t 4 0 (t 0 0 (p - 1))) ∧
    (0 < (if 0 < p then s 10 (2 * s 0 0 (p - 1) + 0) 0 else 0) → 0 < p ∧ s 8 (s 0 0 (p - 1)) 0 ≠ 0 ∧ s 5 (s 0 0 p) 0 < s 5 (s 0 0 (p - 1)) 0) := by
  obtain ⟨h1, h2, h3, h4, h5, h6, h7, h8, h9, h10, h11, h12, h13⟩ := hR
  have hl := h1.len
  subst hpe
  by_cases hp0 : 0 < p
  · have hx := h1.ch (p - 1) (by omega)
    obtain ⟨b1, b2, b3, b4, b5⟩ := h8 (p - 1) (by omega)
    rw [show p - 1 + 1 = p by omega] at b2 b3
    rw [h4 (p - 1) (by omega), b1, (h6 _ hx).2.1, (h6 _ (h1.ch p (by omega))).2.1, if_pos hp0]
    by_cases z : s 8 (s 0 0 (p - 1)) 0 = 0
    · rw [if_neg (fun q => q.2 z), (b2.2 z).1]
      exact ⟨rfl, fun _ => b3, fun q => absurd q (by omega)⟩
    · obtain ⟨q1, q2⟩ := b2.1 z
      have e := q1.2.2.1
      rw [if_pos ⟨hp0, z⟩, e]
      exact ⟨rfl, fun _ => b3, fun q => ⟨hp0, z, by omega⟩⟩
  · rw [if_neg (fun q => hp0 q.1), if_neg hp0]
    exact ⟨rfl, fun q => absurd q hp0, fun q => absurd q (by omega)⟩
theorem Rl.V {n : Nat} {s t : CS} (hR : Rl n s t) {p nd : Nat} (hp : p < s 1 0 0) (hpe : s 0 0 p = nd) : (if p + 1 < t 1 0 0 ∧ t 3 0 nd ≠ 0 then t 5 0 (t 0 0 (p + 1)) - t 5 0 nd else 0) = (if p + 1 = s 1 0 0 then 0 else s 10 (2 * s 0 0 p + 1) 0) ∧ (p + 1 < t 1 0 0 → t 5 0 nd ≤ t 5 0 (t 0 0 (p + 1))) ∧
    (0 < (if p + 1 = s 1 0 0 then 0 else s 10 (2 * s 0 0 p + 1) 0) → p + 1 < s 1 0 0 ∧ s 8 (s 0 0 p) 0 ≠ 0 ∧ s 6 (s 0 0 p) 0 < s 6 (s 0 0 (p + 1)) 0) := by
  obtain ⟨h1, h2, h3, h4, h5, h6, h7, h8, h9, h10, h11, h12, h13⟩ := hR
  have hl := h1.len
  subst hpe
  by_cases hp0 : p + 1 = s 1 0 0
  · rw [if_neg (fun q => by have := q.1; omega), if_pos hp0]
    exact ⟨rfl, fun q => absurd q (by omega), fun q => absurd q (by omega)⟩
  · have hx := h1.ch p (by omega)
    obtain ⟨b1, b2, b3, b4, b5⟩ := h8 p (by omega)
    rw [h4 (p + 1) (by omega), b1, (h6 _ hx).2.2.1, (h6 _ (h1.ch (p + 1) (by omega))).2.2.1, if_neg hp0]
    by_cases z : s 8 (s 0 0 p) 0 = 0
    · rw [if_neg (fun q => q.2 z), (b2.2 z).2]
      exact ⟨rfl, fun _ => b4, fun q => absurd q (by omega)⟩
    · obtain ⟨q1, q2⟩ := b2.1 z
      have e := q2.2.2.1
      rw [if_pos ⟨by omega, z⟩, e]
      exact ⟨rfl, fun _ => b4, fun q => ⟨by omega, z, by omega⟩⟩
section OPS
variable {l : Launch} {g : GG} {sa a am : Nat → Nat} {n : Nat} {s t : CS}
theorem op_write (hlt : l.stackTraces = false) (hR : Rl n s t) (x y : Int32) : OpP l g sa a am n s t yL_write wsL_write yX4_write wsX4_write [.int x, .int y] Int32.toInt64 := by
  obtain ⟨h1, h2, h3, h4, h5, h6, h7, h8, h9, h10, h11, h12, h13⟩ := id hR
  have hl := h1.len
  have n6 := h2.2.1.1
  obtain ⟨v, rfl⟩ := nI_all y
  have hx0 := h1.ch 0 (by omega)
  have e0 := h4 0 (by omega)
  have key : (∃ j, j < 8 ∧ x = nI j) ∨ (x < 0 ∨ nI 8 ≤ x) := by
    rcases pk_ix x (n := 8) (by decide) with q | q | q
    · exact Or.inr (Or.inl q)
    · exact Or.inr (Or.inr q)
    · exact Or.inl q
  rcases key with ⟨j, hj, rfl⟩ | hbad
  · by_cases hc : s 7 (s 0 0 0) 0 = 0 ∧ s 5 (s 0 0 0) 0 < 40
    · have hm1 : t 2 0 (t 0 0 0) = 0 := by rw [e0, (h6 _ hx0).1]; exact hc.1
      have hm2 : t 4 0 (t 0 0 0) = s 5 (s 0 0 0) 0 := by rw [e0, (h6 _ hx0).2.1]
      exact ⟨0, writeS s j v, apM (w3 t 9 0 0 0) (t 0 0 0) j v, nI (s 5 (s 0 0 0) 0 + 1), by omega, R_write hR hj hc.2, by rw [apM_o (by decide), w3_eq], fun A o sz f hA hAo ho hzz => by refine ⟨_, _, ?_, ?_, w_write l hA hAo ho hzz (r := nI (s 5 (s 0 0 0) 0 + 1)) (fun B hB => c_X3_write l hB n6 h1 hj hc.1 hc.2)⟩; exact ⟨rfl, rfl, by decide, by decide⟩; exact fun _ => by simp [vp_updL], fun A hA => by refine ⟨_, ?_, by rw [← hm2]; exact c_X4_write l hA h2 hj hm1 (by omega)⟩; exact ⟨rfl, rfl, by decide, by decide⟩⟩
    · have hx1 := (h1.nd _ hx0).1
      have hbad : s 7 (s 0 0 0) 0 ≠ 0 ∨ 40 ≤ s 5 (s 0 0 0) 0 := by
        by_cases q : s 7 (s 0 0 0) 0 = 0
        · exact Or.inr (Nat.not_lt.mp (fun q2 => hc ⟨q, q2⟩))
        · exact Or.inl q
      have hbadm : t 2 0 (t 0 0 0) ≠ 0 ∨ t 4 0 (t 0 0 0) = 40 := by
        rw [e0, (h6 _ hx0).1, (h6 _ hx0).2.1]; omega
      exact ⟨2, s, w3 t 9 0 0 2, nI 0, by omega, hR.t9 2, w3_eq, fun A o sz f hA hAo ho hzz => by refine ⟨_, f, ?_, fun h => absurd h (by decide), w_write_is l (s2 := s) hA hAo ho hzz (fun B hB => x_X3_write_2 l hlt hB n6 h1 hj hbad)⟩; exact ⟨rfl, rfl, by decide, by decide⟩, fun A hA => by refine ⟨_, ?_, c_X4_write_2 l hA h2 hj hbadm⟩; exact ⟨rfl, rfl, by decide, by decide⟩⟩
  · exact ⟨1, s, w3 t 9 0 0 1, nI 0, by omega, hR.t9 1, w3_eq, fun A o sz f hA hAo ho hzz => by refine ⟨_, f, ?_, fun h => absurd h (by decide), w_write_ia l (s2 := s) hA hAo ho hzz (fun B hB => x_X3_write_1 l hlt hB n6 hbad)⟩; exact ⟨rfl, rfl, by decide, by decide⟩, fun A hA => by refine ⟨_, ?_, c_X4_write_1 l hA h2 hbad⟩; exact ⟨rfl, rfl, by decide, by decide⟩⟩
theorem op_read (hlt : l.stackTraces = false) (hR : Rl n s t) (x : Int32) : OpP l g sa a am n s t yL_read wsL_read yX4_read wsX4_read [.int x] Int32.toInt64 := by
  obtain ⟨h1, h2, h3, h4, h5, h6, h7, h8, h9, h10, h11, h12, h13⟩ := id hR
  have hl := h1.len
  have n6 := h2.2.1.1
  have key : (∃ j, j < 8 ∧ x = nI j) ∨ (x < 0 ∨ nI 8 ≤ x) := by
    rcases pk_ix x (n := 8) (by decide) with q | q | q
    · exact Or.inr (Or.inl q)
    · exact Or.inr (Or.inr q)
    · exact Or.inl q
  have hx0 := h1.ch (s 1 0 0 - 1) (by omega)
  have e0 : t 0 0 (t 1 0 0 - 1) = s 0 0 (s 1 0 0 - 1) := by rw [h3]; exact h4 _ (by omega)
  rcases key with ⟨j, hj, rfl⟩ | hbad
  · by_cases hc : s 7 (s 0 0 (s 1 0 0 - 1)) 0 = 0
    · have hm1 : t 2 0 (t 0 0 (t 1 0 0 - 1)) = 0 := by rw [e0, (h6 _ hx0).1]; exact hc
      have hv : valF (w3 t 9 0 0 0) (t 0 0 (t 1 0 0 - 1)) j (t 4 0 (t 0 0 (t 1 0 0 - 1))) = s 12 (s 0 0 (s 1 0 0 - 1)) j := by rw [valF_9, e0, h10 _ hx0 j hj]
      exact ⟨0, s, w3 t 9 0 0 0, nI (s 12 (s 0 0 (s 1 0 0 - 1)) j), by omega, hR.t9 0, w3_eq, fun A o sz f hA hAo ho hzz => by refine ⟨_, _, ?_, ?_, w_read l hA hAo ho hzz (r := nI (s 12 (s 0 0 (s 1 0 0 - 1)) j)) (fun B hB => c_X3_read l hB n6 h1 hj hc)⟩; exact ⟨rfl, rfl, by decide, by decide⟩; exact fun _ => by simp [vp_updL], fun A hA => by refine ⟨_, ?_, by rw [← hv]; exact c_X4_read l hA h2 hj hm1⟩; exact ⟨rfl, rfl, by decide, by decide⟩⟩
    · have hm1 : t 2 0 (t 0 0 (t 1 0 0 - 1)) ≠ 0 := by rw [e0, (h6 _ hx0).1]; exact hc
      exact ⟨2, s, w3 t 9 0 0 2, nI 0, by omega, hR.t9 2, w3_eq, fun A o sz f hA hAo ho hzz => by refine ⟨_, f, ?_, fun h => absurd h (by decide), w_read_is l (s2 := s) hA hAo ho hzz (fun B hB => x_X3_read_2 l hlt hB n6 h1 hj hc)⟩; exact ⟨rfl, rfl, by decide, by decide⟩, fun A hA => by refine ⟨_, ?_, c_X4_read_2 l hA h2 hj hm1⟩; exact ⟨rfl, rfl, by decide, by decide⟩⟩
  · exact ⟨1, s, w3 t 9 0 0 1, nI 0, by omega, hR.t9 1, w3_eq, fun A o sz f hA hAo ho hzz => by refine ⟨_, f, ?_, fun h => absurd h (by decide), w_read_ia l (s2 := s) hA hAo ho hzz (fun B hB => x_X3_read_1 l hlt hB n6 hbad)⟩; exact ⟨rfl, rfl, by decide, by decide⟩, fun A hA => by refine ⟨_, ?_, c_X4_read_1 l hA h2 hbad⟩; exact ⟨rfl, rfl, by decide, by decide⟩⟩
theorem op_deliver (hlt : l.stackTraces = false) (hR : Rl n s t) (x : Int32) : OpP l g sa a am n s t yL_deliver wsL_deliver yX4_deliver wsX4_deliver [.int x] Int32.toInt64 := by
  obtain ⟨h1, h2, h3, h4, h5, h6, h7, h8, h9, h10, h11, h12, h13⟩ := id hR
  have hl := h1.len
  have n6 := h2.2.1.1
  have node : (∃ nd, nd < n ∧ x = nI nd) ∨ (x < 0 ∨ nI n ≤ x) := by
    rcases pk_ix x (n := n) (by omega) with q | q | q
    · exact Or.inr (Or.inl q)
    · exact Or.inr (Or.inr q)
    · exact Or.inl q
  rcases node with ⟨nd, hnd, rfl⟩ | hbad
  · have f0 := h6 nd hnd
    by_cases hfl : s 7 nd 0 = 0
    · have hflm : t 2 0 nd = 0 := f0.1.trans hfl
      rcases hR.pos hnd with ⟨p, hp, hpe, hf, hpm, hpem, hum⟩ | q
      · obtain ⟨u1, u2, u3⟩ := hR.U hp hpe
        by_cases hz : (if 0 < p then s 10 (2 * s 0 0 (p - 1) + 0) 0 else 0) = 0
        · exact ⟨3, s, w3 t 9 0 0 3, nI 0, by omega, hR.t9 3, w3_eq, fun A o sz f hA hAo ho hzz => by refine ⟨_, f, ?_, fun h => absurd h (by decide), w_deliver_ns l (s2 := s) hA hAo ho hzz (fun B hB => x_X3_deliver_3 l hlt hB n6 h1 hnd hp hpe hf hfl hz)⟩; exact ⟨rfl, rfl, by decide, by decide⟩, fun A hA => by refine ⟨_, ?_, c_X4_deliver_3 l hA h2 hnd hpm hpem hum hflm u2 u1 hz⟩; exact ⟨rfl, rfl, by decide, by decide⟩⟩
        · obtain ⟨v1, v2, v3⟩ := u3 (by omega)
          obtain ⟨r1, r2, r3⟩ := R_deliver hR hp v1 v2 v3
          have hpp := h4 (p - 1) (by omega)
          rw [hpe] at r1 r3
          exact ⟨0, applyAt (qtake s (2 * s 0 0 (p - 1) + 0)) p (s 5 nd 0 + 1), apM (w3 t 9 0 0 0) nd (t 6 0 (41 * s 0 0 (p - 1) + s 5 nd 0 + 1)) (t 7 0 (41 * s 0 0 (p - 1) + s 5 nd 0 + 1)), nI (s 5 nd 0 + 1), by omega, r3, by rw [apM_o (by decide), w3_eq], fun A o sz f hA hAo ho hzz => by refine ⟨_, _, ?_, ?_, w_deliver l hA hAo ho hzz (r := nI (s 5 nd 0 + 1)) (fun B hB => by rw [← r1]; exact c_X3_deliver l hB n6 h1 hnd hp hpe hf hfl v1 r2)⟩; exact ⟨rfl, rfl, by decide, by decide⟩; exact fun _ => by simp [vp_updL], fun A hA => by refine ⟨_, ?_, by rw [← hpp, ← f0.2.1]; exact c_X4_deliver l hA h2 hnd hpm hpem hum hflm u2 u1 (by omega)⟩; exact ⟨rfl, rfl, by decide, by decide⟩⟩
      · exact absurd hfl q.2.2.1
    · have hflm : t 2 0 nd ≠ 0 := by rw [f0.1]; exact hfl
      exact ⟨2, s, w3 t 9 0 0 2, nI 0, by omega, hR.t9 2, w3_eq, fun A o sz f hA hAo ho hzz => by refine ⟨_, f, ?_, fun h => absurd h (by decide), w_deliver_is l (s2 := s) hA hAo ho hzz (fun B hB => x_X3_deliver_2 l hlt hB n6 h1 hnd hfl)⟩; exact ⟨rfl, rfl, by decide, by decide⟩, fun A hA => by refine ⟨_, ?_, c_X4_deliver_2 l hA h2 hnd hflm⟩; exact ⟨rfl, rfl, by decide, by decide⟩⟩
  · exact ⟨1, s, w3 t 9 0 0 1, nI 0, by omega, hR.t9 1, w3_eq, fun A o sz f hA hAo ho hzz => by refine ⟨_, f, ?_, fun h => absurd h (by decide), w_deliver_ia l (s2 := s) hA hAo ho hzz (fun B hB => x_X3_deliver_1 l hlt hB n6 hbad)⟩; exact ⟨rfl, rfl, by decide, by decide⟩, fun A hA => by refine ⟨_, ?_, c_X4_deliver_1 l hA h2 hbad⟩; exact ⟨rfl, rfl, by decide, by decide⟩⟩
theorem op_acknowledge (hlt : l.stackTraces = false) (hR : Rl n s t) (x : Int32) : OpP l g sa a am n s t yL_acknowledge wsL_acknowledge yX4_acknowledge wsX4_acknowledge [.int x] Int32.toInt64 := by
  obtain ⟨h1, h2, h3, h4, h5, h6, h7, h8, h9, h10, h11, h12, h13⟩ := id hR
  have hl := h1.len
  have n6 := h2.2.1.1
  have node : (∃ nd, nd < n ∧ x = nI nd) ∨ (x < 0 ∨ nI n ≤ x) := by
    rcases pk_ix x (n := n) (by omega) with q | q | q
    · exact Or.inr (Or.inl q)
    · exact Or.inr (Or.inr q)
    · exact Or.inl q
  rcases node with ⟨nd, hnd, rfl⟩ | hbad
  · have f0 := h6 nd hnd
    by_cases hfl : s 7 nd 0 = 0
    · have hflm : t 2 0 nd = 0 := f0.1.trans hfl
      rcases hR.pos hnd with ⟨p, hp, hpe, hf, hpm, hpem, hum⟩ | q
      · obtain ⟨u1, u2, u3⟩ := hR.V hp hpe
        by_cases hz : (if p + 1 = s 1 0 0 then 0 else s 10 (2 * s 0 0 p + 1) 0) = 0
        · exact ⟨3, s, w3 t 9 0 0 3, nI 0, by omega, hR.t9 3, w3_eq, fun A o sz f hA hAo ho hzz => by refine ⟨_, f, ?_, fun h => absurd h (by decide), w_acknowledge_ns l (s2 := s) hA hAo ho hzz (fun B hB => x_X3_acknowledge_3 l hlt hB n6 h1 hnd hp hpe hf hfl hz)⟩; exact ⟨rfl, rfl, by decide, by decide⟩, fun A hA => by refine ⟨_, ?_, c_X4_acknowledge_3 l hA h2 hnd hpm hpem hum hflm u2 u1 hz⟩; exact ⟨rfl, rfl, by decide, by decide⟩⟩
        · obtain ⟨v1, v2, v3⟩ := u3 (by omega)
          obtain ⟨r1, r2, r3⟩ := R_ack hR v1 v2 v3
          have r9 := r1
          rw [hpe] at r3
          rw [hpe] at r1
          exact ⟨0, ackAt (qtake s (2 * nd + 1)) p (s 6 nd 0 + 1), w3 (w3 t 9 0 0 0) 5 0 nd (s 6 nd 0 + 1), nI (s 6 nd 0 + 1), by omega, r3, by rw [w3_c (by decide), w3_eq], fun A o sz f hA hAo ho hzz => by refine ⟨_, _, ?_, ?_, w_acknowledge l hA hAo ho hzz (r := nI (s 6 nd 0 + 1)) (fun B hB => by have q := c_X3_acknowledge l (g := g) hB n6 h1 hnd hp hpe hf hfl (by omega) r2; rw [r9, hpe] at q; exact q)⟩; exact ⟨rfl, rfl, by decide, by decide⟩; exact fun _ => by simp [vp_updL], fun A hA => by refine ⟨_, ?_, by rw [← f0.2.2.1]; exact c_X4_acknowledge l hA h2 hnd hpm hpem hum hflm u2 u1 (by omega)⟩; exact ⟨rfl, rfl, by decide, by decide⟩⟩
      · exact absurd hfl q.2.2.1
    · have hflm : t 2 0 nd ≠ 0 := by rw [f0.1]; exact hfl
      exact ⟨2, s, w3 t 9 0 0 2, nI 0, by omega, hR.t9 2, w3_eq, fun A o sz f hA hAo ho hzz => by refine ⟨_, f, ?_, fun h => absurd h (by decide), w_acknowledge_is l (s2 := s) hA hAo ho hzz (fun B hB => x_X3_acknowledge_2 l hlt hB n6 h1 hnd hfl)⟩; exact ⟨rfl, rfl, by decide, by decide⟩, fun A hA => by refine ⟨_, ?_, c_X4_acknowledge_2 l hA h2 hnd hflm⟩; exact ⟨rfl, rfl, by decide, by decide⟩⟩
  · exact ⟨1, s, w3 t 9 0 0 1, nI 0, by omega, hR.t9 1, w3_eq, fun A o sz f hA hAo ho hzz => by refine ⟨_, f, ?_, fun h => absurd h (by decide), w_acknowledge_ia l (s2 := s) hA hAo ho hzz (fun B hB => x_X3_acknowledge_1 l hlt hB n6 hbad)⟩; exact ⟨rfl, rfl, by decide, by decide⟩, fun A hA => by refine ⟨_, ?_, c_X4_acknowledge_1 l hA h2 hbad⟩; exact ⟨rfl, rfl, by decide, by decide⟩⟩
theorem op_fail (hlt : l.stackTraces = false) (hR : Rl n s t) (x : Int32) : OpP l g sa a am n s t yL_fail wsL_fail yX4_fail wsX4_fail [.int x] (fun b => if b = 0 then 0 else 1) := by
  obtain ⟨h1, h2, h3, h4, h5, h6, h7, h8, h9, h10, h11, h12, h13⟩ := id hR
  have hl := h1.len
  have n6 := h2.2.1.1
  have node : (∃ nd, nd < n ∧ x = nI nd) ∨ (x < 0 ∨ nI n ≤ x) := by
    rcases pk_ix x (n := n) (by omega) with q | q | q
    · exact Or.inr (Or.inl q)
    · exact Or.inr (Or.inr q)
    · exact Or.inl q
  obtain ⟨k1, k2⟩ := hR.cnt
  rcases node with ⟨nd, hnd, rfl⟩ | hbad
  · have f0 := h6 nd hnd
    by_cases hno : s 7 nd 0 ≠ 0 ∨ cntS s n ≤ 1
    · have hnom : t 2 0 nd ≠ 0 ∨ cntM t n = 1 := by rw [f0.1, k1]; omega
      exact ⟨0, s, w3 t 9 0 0 0, nI 0, by omega, hR.t9 0, w3_eq, fun A o sz f hA hAo ho hzz => by refine ⟨_, _, ?_, ?_, w_fail l hA hAo ho hzz (b := 0) (by decide) (fun B hB => c_X3_fail_no l hB n6 h1 hnd hno)⟩; exact ⟨rfl, rfl, by decide, by decide⟩; exact fun _ => by show (if (0 : Nat) = 0 then (if (0 : Nat) = 0 then (0 : Int64) else 1) else f 0) = (if nI 0 = 0 then (0 : Int64) else 1); rw [if_pos rfl]; decide, fun A hA => by refine ⟨_, ?_, c_X4_fail_no l hA h2 hnd hnom⟩; exact ⟨rfl, rfl, by decide, by decide⟩⟩
    · have hfl : s 7 nd 0 = 0 := by omega
      have hct : 1 < cntS s n := by omega
      have hflm : t 2 0 nd = 0 := f0.1.trans hfl
      rcases hR.pos hnd with ⟨p, hp, hpe, hf, hpm, hpem, hum⟩ | q
      · have r := R_fail hR hp hct
        rw [hpe] at r
        exact ⟨0, closeAt (w3 s 7 nd 0 1) p, failM t nd p, nI 1, by omega, r, by unfold failM; split <;> simp [w3], fun A o sz f hA hAo ho hzz => by refine ⟨_, _, ?_, ?_, w_fail l hA hAo ho hzz (b := 1) (by decide) (fun B hB => c_X3_fail l hB n6 h1 hnd hp hpe hf hfl hct)⟩; exact ⟨rfl, rfl, by decide, by decide⟩; exact fun _ => by show (if (0 : Nat) = 0 then (if (1 : Nat) = 0 then (0 : Int64) else 1) else f 0) = (if nI 1 = 0 then (0 : Int64) else 1); rw [if_pos rfl]; decide, fun A hA => by refine ⟨_, ?_, c_X4_fail l hA h2 hnd hpm hpem hum hflm (by omega)⟩; exact ⟨rfl, rfl, by decide, by decide⟩⟩
      · exact absurd hfl q.2.2.1
  · exact ⟨1, s, w3 t 9 0 0 1, nI 0, by omega, hR.t9 1, w3_eq, fun A o sz f hA hAo ho hzz => by refine ⟨_, f, ?_, fun h => absurd h (by decide), w_fail_ia l (s2 := s) hA hAo ho hzz (fun B hB => x_X3_fail_1 l hlt hB n6 hbad)⟩; exact ⟨rfl, rfl, by decide, by decide⟩, fun A hA => by refine ⟨_, ?_, c_X4_fail_1 l hA h2 hbad⟩; exact ⟨rfl, rfl, by decide, by decide⟩⟩
theorem op_resync (hlt : l.stackTraces = false) (hR : Rl n s t) (x : Int32) : OpP l g sa a am n s t yL_resync wsL_resync yX4_resync wsX4_resync [.int x] Int32.toInt64 := by
  obtain ⟨h1, h2, h3, h4, h5, h6, h7, h8, h9, h10, h11, h12, h13⟩ := id hR
  have hl := h1.len
  have n6 := h2.2.1.1
  have node : (∃ nd, nd < n ∧ x = nI nd) ∨ (x < 0 ∨ nI n ≤ x) := by
    rcases pk_ix x (n := n) (by omega) with q | q | q
    · exact Or.inr (Or.inl q)
    · exact Or.inr (Or.inr q)
    · exact Or.inl q
  rcases node with ⟨nd, hnd, rfl⟩ | hbad
  · have f0 := h6 nd hnd
    rcases hR.pos hnd with ⟨p, hp, hpe, hf, hpm, hpem, hum⟩ | ⟨q1, q2, q3, q4⟩
    · by_cases hc : p + 1 ≠ s 1 0 0 ∧ s 7 (s 0 0 p) 0 = 0 ∧ s 7 (s 0 0 (p + 1)) 0 = 0 ∧ s 8 (s 0 0 p) 0 = 0
      · obtain ⟨r1, r2⟩ := R_resync hR (p := p) (by omega) hc.2.1 hc.2.2.1 hc.2.2.2
        obtain ⟨b1, b2, b3, b4, b5⟩ := h8 p (by omega)
        have hy := h1.ch (p + 1) (by omega)
        have ey := h4 (p + 1) (by omega)
        have hah := hR.ah p (p + 1) hp (by omega)
        have hcm : t 2 0 nd = 0 ∧ p + 1 ≠ t 1 0 0 ∧ t 2 0 (t 0 0 (p + 1)) = 0 ∧ t 3 0 nd = 0 := by
          rw [h3, ey, (h6 _ hy).1, f0.1, ← hpe, b1]; exact ⟨hc.2.1, hc.1, hc.2.2.1, hc.2.2.2⟩
        have hle : t 4 0 (t 0 0 (p + 1)) ≤ t 4 0 nd := by rw [ey, (h6 _ hy).2.1, f0.2.1, ← hpe]; exact b3
        have hans : t 4 0 nd - t 4 0 (t 0 0 (p + 1)) = s 5 (s 0 0 p) 0 - s 5 (s 0 0 (p + 1)) 0 := by rw [ey, (h6 _ hy).2.1, f0.2.1, ← hpe]
        exact ⟨0, rsS s (s 0 0 p) (s 0 0 (p + 1)), w3 (w3 t 9 0 0 0) 3 0 (s 0 0 p) 1, nI (s 5 (s 0 0 p) 0 - s 5 (s 0 0 (p + 1)) 0), by omega, r2, by rw [w3_c (by decide), w3_eq], fun A o sz f hA hAo ho hzz => by refine ⟨_, _, ?_, ?_, w_resync l hA hAo ho hzz (r := nI (s 5 (s 0 0 p) 0 - s 5 (s 0 0 (p + 1)) 0)) (fun B hB => by rw [← r1]; exact c_X3_resync l hB n6 h1 hnd hp hpe hf hc hah b3 b4)⟩; exact ⟨rfl, rfl, by decide, by decide⟩; exact fun _ => by simp [vp_updL], fun A hA => by refine ⟨_, ?_, by rw [← hans, hpe]; exact c_X4_resync l hA h2 hnd hpm hpem hum hcm hle⟩; exact ⟨rfl, rfl, by decide, by decide⟩⟩
      · have hcm : t 2 0 nd ≠ 0 ∨ p + 1 = t 1 0 0 ∨ t 2 0 (t 0 0 (p + 1)) ≠ 0 ∨ t 3 0 nd ≠ 0 := by
          by_cases g1 : p + 1 = s 1 0 0
          · exact Or.inr (Or.inl (by omega))
          · have hy := h1.ch (p + 1) (by omega)
            rw [h4 (p + 1) (by omega), (h6 _ hy).1, f0.1, ← hpe, (h8 p (by omega)).1]
            by_cases g2 : s 7 (s 0 0 p) 0 = 0
            · by_cases g3 : s 7 (s 0 0 (p + 1)) 0 = 0
              · exact Or.inr (Or.inr (Or.inr (fun g4 => hc ⟨g1, g2, g3, g4⟩)))
              · exact Or.inr (Or.inr (Or.inl g3))
            · exact Or.inl g2
        exact ⟨2, s, w3 t 9 0 0 2, nI 0, by omega, hR.t9 2, w3_eq, fun A o sz f hA hAo ho hzz => by refine ⟨_, f, ?_, fun h => absurd h (by decide), w_resync_is l (s2 := s) hA hAo ho hzz (fun B hB => x_X3_resync_2 l hlt hB n6 h1 hnd hp hpe hf hc)⟩; exact ⟨rfl, rfl, by decide, by decide⟩, fun A hA => by refine ⟨_, ?_, c_X4_resync_2 l hA h2 hnd hpm hpem hum hcm⟩; exact ⟨rfl, rfl, by decide, by decide⟩⟩
    · exact ⟨2, s, w3 t 9 0 0 2, nI 0, by omega, hR.t9 2, w3_eq, fun A o sz f hA hAo ho hzz => by refine ⟨_, f, ?_, fun h => absurd h (by decide), w_resync_is l (s2 := s) hA hAo ho hzz (fun B hB => x_X3_resync_2o l hlt hB n6 h1 hnd q1)⟩; exact ⟨rfl, rfl, by decide, by decide⟩, fun A hA => by refine ⟨_, ?_, c_X4_resync_2o l hA h2 hnd q2 q4⟩; exact ⟨rfl, rfl, by decide, by decide⟩⟩
  · exact ⟨1, s, w3 t 9 0 0 1, nI 0, by omega, hR.t9 1, w3_eq, fun A o sz f hA hAo ho hzz => by refine ⟨_, f, ?_, fun h => absurd h (by decide), w_resync_ia l (s2 := s) hA hAo ho hzz (fun B hB => x_X3_resync_1 l hlt hB n6 hbad)⟩; exact ⟨rfl, rfl, by decide, by decide⟩, fun A hA => by refine ⟨_, ?_, c_X4_resync_1 l hA h2 hbad⟩; exact ⟨rfl, rfl, by decide, by decide⟩⟩
theorem op_valueAt (hlt : l.stackTraces = false) (hR : Rl n s t) (x y : Int32) : OpP l g sa a am n s t yL_valueAt wsL_valueAt yX4_valueAt wsX4_valueAt [.int x, .int y] Int32.toInt64 := by
  obtain ⟨h1, h2, h3, h4, h5, h6, h7, h8, h9, h10, h11, h12, h13⟩ := id hR
  have hl := h1.len
  have n6 := h2.2.1.1
  have node : (∃ nd, nd < n ∧ x = nI nd) ∨ (x < 0 ∨ nI n ≤ x) := by
    rcases pk_ix x (n := n) (by omega) with q | q | q
    · exact Or.inr (Or.inl q)
    · exact Or.inr (Or.inr q)
    · exact Or.inl q
  have key : (∃ j, j < 8 ∧ y = nI j) ∨ (y < 0 ∨ nI 8 ≤ y) := by
    rcases pk_ix y (n := 8) (by decide) with q | q | q
    · exact Or.inr (Or.inl q)
    · exact Or.inr (Or.inr q)
    · exact Or.inl q
  rcases node with ⟨nd, hnd, rfl⟩ | hbad
  · rcases key with ⟨j, hj, rfl⟩ | hbad
    · have hv : valF (w3 t 9 0 0 0) nd j (t 4 0 nd) = s 12 nd j := by rw [valF_9, h10 nd hnd j hj]
      exact ⟨0, s, w3 t 9 0 0 0, nI (s 12 nd j), by omega, hR.t9 0, w3_eq, fun A o sz f hA hAo ho hzz => by refine ⟨_, _, ?_, ?_, w_valueAt l hA hAo ho hzz (r := nI (s 12 nd j)) (fun B hB => c_X3_valueAt l hB n6 hnd hj)⟩; exact ⟨rfl, rfl, by decide, by decide⟩; exact fun _ => by simp [vp_updL], fun A hA => by refine ⟨_, ?_, by rw [← hv]; exact c_X4_valueAt l hA h2 hnd hj⟩; exact ⟨rfl, rfl, by decide, by decide⟩⟩
    · exact ⟨1, s, w3 t 9 0 0 1, nI 0, by omega, hR.t9 1, w3_eq, fun A o sz f hA hAo ho hzz => by refine ⟨_, f, ?_, fun h => absurd h (by decide), w_valueAt_ia l (s2 := s) hA hAo ho hzz (fun B hB => x_X3_valueAt_1k l hlt hB n6 hnd hbad)⟩; exact ⟨rfl, rfl, by decide, by decide⟩, fun A hA => by refine ⟨_, ?_, c_X4_valueAt_1k l hA h2 hnd hbad⟩; exact ⟨rfl, rfl, by decide, by decide⟩⟩
  · exact ⟨1, s, w3 t 9 0 0 1, nI 0, by omega, hR.t9 1, w3_eq, fun A o sz f hA hAo ho hzz => by refine ⟨_, f, ?_, fun h => absurd h (by decide), w_valueAt_ia l (s2 := s) hA hAo ho hzz (fun B hB => x_X3_valueAt_1 l hlt hB n6 hbad)⟩; exact ⟨rfl, rfl, by decide, by decide⟩, fun A hA => by refine ⟨_, ?_, c_X4_valueAt_1 l hA h2 hbad⟩; exact ⟨rfl, rfl, by decide, by decide⟩⟩
theorem op_history (hlt : l.stackTraces = false) (hR : Rl n s t) (x : Int32) : OpP l g sa a am n s t yL_history wsL_history yX4_history wsX4_history [.int x] Int32.toInt64 := by
  obtain ⟨h1, h2, h3, h4, h5, h6, h7, h8, h9, h10, h11, h12, h13⟩ := id hR
  have hl := h1.len
  have n6 := h2.2.1.1
  have node : (∃ nd, nd < n ∧ x = nI nd) ∨ (x < 0 ∨ nI n ≤ x) := by
    rcases pk_ix x (n := n) (by omega) with q | q | q
    · exact Or.inr (Or.inl q)
    · exact Or.inr (Or.inr q)
    · exact Or.inl q
  rcases node with ⟨nd, hnd, rfl⟩ | hbad
  · have f0 := h6 nd hnd
    exact ⟨0, s, w3 t 9 0 0 0, nI (s 5 nd 0), by omega, hR.t9 0, w3_eq, fun A o sz f hA hAo ho hzz => by refine ⟨_, _, ?_, ?_, w_history l hA hAo ho hzz (r := nI (s 5 nd 0)) (fun B hB => c_X3_history l hB n6 hnd)⟩; exact ⟨rfl, rfl, by decide, by decide⟩; exact fun _ => by simp [vp_updL], fun A hA => by refine ⟨_, ?_, by rw [← f0.2.1]; exact c_X4_history l hA h2 hnd⟩; exact ⟨rfl, rfl, by decide, by decide⟩⟩
  · exact ⟨1, s, w3 t 9 0 0 1, nI 0, by omega, hR.t9 1, w3_eq, fun A o sz f hA hAo ho hzz => by refine ⟨_, f, ?_, fun h => absurd h (by decide), w_history_ia l (s2 := s) hA hAo ho hzz (fun B hB => x_X3_history_1 l hlt hB n6 hbad)⟩; exact ⟨rfl, rfl, by decide, by decide⟩, fun A hA => by refine ⟨_, ?_, c_X4_history_1 l hA h2 hbad⟩; exact ⟨rfl, rfl, by decide, by decide⟩⟩
theorem op_sent (hlt : l.stackTraces = false) (hR : Rl n s t) (x : Int32) : OpP l g sa a am n s t yL_sent wsL_sent yX4_sent wsX4_sent [.int x] Int32.toInt64 := by
  obtain ⟨h1, h2, h3, h4, h5, h6, h7, h8, h9, h10, h11, h12, h13⟩ := id hR
  have hl := h1.len
  have n6 := h2.2.1.1
  have node : (∃ nd, nd < n ∧ x = nI nd) ∨ (x < 0 ∨ nI n ≤ x) := by
    rcases pk_ix x (n := n) (by omega) with q | q | q
    · exact Or.inr (Or.inl q)
    · exact Or.inr (Or.inr q)
    · exact Or.inl q
  rcases node with ⟨nd, hnd, rfl⟩ | hbad
  · have f0 := h6 nd hnd
    exact ⟨0, s, w3 t 9 0 0 0, nI (s 5 nd 0 - s 6 nd 0), by omega, hR.t9 0, w3_eq, fun A o sz f hA hAo ho hzz => by refine ⟨_, _, ?_, ?_, w_sent l hA hAo ho hzz (r := nI (s 5 nd 0 - s 6 nd 0)) (fun B hB => c_X3_sent l hB n6 hnd f0.2.2.2)⟩; exact ⟨rfl, rfl, by decide, by decide⟩; exact fun _ => by simp [vp_updL], fun A hA => by refine ⟨_, ?_, by rw [← f0.2.1, ← f0.2.2.1]; exact c_X4_sent l hA h2 hnd (by rw [f0.2.1, f0.2.2.1]; exact f0.2.2.2)⟩; exact ⟨rfl, rfl, by decide, by decide⟩⟩
  · exact ⟨1, s, w3 t 9 0 0 1, nI 0, by omega, hR.t9 1, w3_eq, fun A o sz f hA hAo ho hzz => by refine ⟨_, f, ?_, fun h => absurd h (by decide), w_sent_ia l (s2 := s) hA hAo ho hzz (fun B hB => x_X3_sent_1 l hlt hB n6 hbad)⟩; exact ⟨rfl, rfl, by decide, by decide⟩, fun A hA => by refine ⟨_, ?_, c_X4_sent_1 l hA h2 hbad⟩; exact ⟨rfl, rfl, by decide, by decide⟩⟩
theorem op_waiting (hlt : l.stackTraces = false) (hR : Rl n s t) (x : Int32) : OpP l g sa a am n s t yL_waiting wsL_waiting yX4_waiting wsX4_waiting [.int x] Int32.toInt64 := by
  obtain ⟨h1, h2, h3, h4, h5, h6, h7, h8, h9, h10, h11, h12, h13⟩ := id hR
  have hl := h1.len
  have n6 := h2.2.1.1
  have node : (∃ nd, nd < n ∧ x = nI nd) ∨ (x < 0 ∨ nI n ≤ x) := by
    rcases pk_ix x (n := n) (by omega) with q | q | q
    · exact Or.inr (Or.inl q)
    · exact Or.inr (Or.inr q)
    · exact Or.inl q
  rcases node with ⟨nd, hnd, rfl⟩ | hbad
  · rcases hR.pos hnd with ⟨p, hp, hpe, hf, hpm, hpem, hum⟩ | ⟨q1, q2, q3, q4⟩
    · obtain ⟨u1, u2, u3⟩ := hR.U hp hpe
      obtain ⟨v1, v2, v3⟩ := hR.V hp hpe
      exact ⟨0, s, w3 t 9 0 0 0, nI ((if 0 < p then s 10 (2 * s 0 0 (p - 1) + 0) 0 else 0) + 100 * (if p + 1 = s 1 0 0 then 0 else s 10 (2 * s 0 0 p + 1) 0)), by omega, hR.t9 0, w3_eq, fun A o sz f hA hAo ho hzz => by refine ⟨_, _, ?_, ?_, w_waiting l hA hAo ho hzz (r := nI ((if 0 < p then s 10 (2 * s 0 0 (p - 1) + 0) 0 else 0) + 100 * (if p + 1 = s 1 0 0 then 0 else s 10 (2 * s 0 0 p + 1) 0))) (fun B hB => c_X3_waiting l hB n6 h1 hnd hp hpe hf)⟩; exact ⟨rfl, rfl, by decide, by decide⟩; exact fun _ => by simp [vp_updL], fun A hA => by refine ⟨_, ?_, c_X4_waiting l hA h2 hnd hpm hpem hum u2 u1 v2 v1⟩; exact ⟨rfl, rfl, by decide, by decide⟩⟩
    · exact ⟨0, s, w3 t 9 0 0 0, nI 0, by omega, hR.t9 0, w3_eq, fun A o sz f hA hAo ho hzz => by refine ⟨_, _, ?_, ?_, w_waiting l hA hAo ho hzz (r := nI 0) (fun B hB => c_X3_waiting_no l hB n6 h1 hnd q1)⟩; exact ⟨rfl, rfl, by decide, by decide⟩; exact fun _ => by simp [vp_updL], fun A hA => by refine ⟨_, ?_, c_X4_waiting_o l hA h2 hnd q2⟩; exact ⟨rfl, rfl, by decide, by decide⟩⟩
  · exact ⟨1, s, w3 t 9 0 0 1, nI 0, by omega, hR.t9 1, w3_eq, fun A o sz f hA hAo ho hzz => by refine ⟨_, f, ?_, fun h => absurd h (by decide), w_waiting_ia l (s2 := s) hA hAo ho hzz (fun B hB => x_X3_waiting_1 l hlt hB n6 hbad)⟩; exact ⟨rfl, rfl, by decide, by decide⟩, fun A hA => by refine ⟨_, ?_, c_X4_waiting_1 l hA h2 hbad⟩; exact ⟨rfl, rfl, by decide, by decide⟩⟩
end OPS
