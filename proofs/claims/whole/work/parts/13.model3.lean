def tkM (s : CS) : Nat → CS × Nat
  | 0 => (s, 0)
  | k + 1 => if s 2 0 (s 0 0 k) = 0 then (w3 (tkM s k).1 0 0 (tkM s k).2 (s 0 0 k), (tkM s k).2 + 1) else tkM s k
theorem tkM_le (s : CS) : ∀ k, (tkM s k).2 ≤ k
  | 0 => Nat.le_refl 0
  | k + 1 => by have := tkM_le s k; simp only [tkM]; split <;> simp <;> omega
theorem tkM_c {s : CS} {c i j : Nat} (h : c ≠ 0) : ∀ k, (tkM s k).1 c i j = s c i j
  | 0 => rfl
  | k + 1 => by have := tkM_c (s := s) (i := i) (j := j) h k; simp only [tkM]; split; (simp [w3, h, this]); exact this
theorem tkM_hi {s : CS} {j : Nat} : ∀ k, k ≤ j → (tkM s k).1 0 0 j = s 0 0 j
  | 0, _ => rfl
  | k + 1, hk => by
    have h1 := tkM_hi (s := s) (j := j) k (by omega); have h2 := tkM_le s k
    simp only [tkM]; split
    · simp only [w3]; rw [if_neg (by omega)]; exact h1
    · exact h1
theorem Mh.tk {n : Nat} {s : CS} (h : Mh n s) : ∀ {k : Nat}, k ≤ n → Mh n (tkM s k).1
  | 0, _ => h
  | k + 1, hk => by
    have h1 := h.tk (k := k) (by omega); have h2 := h.2.1
    simp only [tkM]; split
    · exact h1.m0 (h.ch k (by omega))
    · exact h1
def rM1 (s : CS) : CS := w3 (tkM (w3 s 9 0 0 0) (s 1 0 0)).1 1 0 0 (tkM (w3 s 9 0 0 0) (s 1 0 0)).2
def tlM (s : CS) : Nat := (tkM (w3 s 9 0 0 0) (s 1 0 0)).1 0 0 ((tkM (w3 s 9 0 0 0) (s 1 0 0)).2 - 1)
def repM (s : CS) : CS := if tlM s ≠ s 0 0 (s 1 0 0 - 1) ∧ s 5 0 (tlM s) < s 4 0 (tlM s) then w3 (w3 (rM1 s) 5 0 (tlM s) (s 4 0 (tlM s))) 8 0 0 (s 4 0 (tlM s)) else rM1 s
def lagM (s : CS) : Nat → Nat × Nat × Nat
  | 0 => (0, 0, 0)
  | k + 1 => if s 2 0 (s 0 0 k) = 0 then ((lagM s k).1 + 1, (if (lagM s k).1 = 0 then s 4 0 (s 0 0 k) else (lagM s k).2.1), (lagM s k).2.2 + ((if (lagM s k).1 = 0 then s 4 0 (s 0 0 k) else (lagM s k).2.1) - s 4 0 (s 0 0 k))) else lagM s k
theorem lagM_f (s : CS) : ∀ k, (lagM s k).1 ≠ 0 → ∃ j, j < k ∧ (lagM s k).2.1 = s 4 0 (s 0 0 j)
  | 0, h => absurd rfl h
  | k + 1, h => by
    by_cases h7 : s 2 0 (s 0 0 k) = 0
    · by_cases hc : (lagM s k).1 = 0
      · exact ⟨k, by omega, by simp [lagM, h7, hc]⟩
      · obtain ⟨j, h1, h2⟩ := lagM_f s k hc
        exact ⟨j, by omega, by simp [lagM, h7, hc, h2]⟩
    · simp only [lagM, h7, if_false] at h ⊢
      obtain ⟨j, h1, h2⟩ := lagM_f s k h
      exact ⟨j, by omega, h2⟩
theorem lagM_c (s : CS) : ∀ k, (lagM s k).1 ≤ k
  | 0 => Nat.le_refl 0
  | k + 1 => by have := lagM_c s k; simp only [lagM]; split <;> simp <;> omega
theorem lagM_b (s : CS) : ∀ k, (∀ j, j < k → s 4 0 (s 0 0 j) ≤ 40) → (lagM s k).2.2 ≤ 40 * k ∧ (lagM s k).2.1 ≤ 40
  | 0, _ => ⟨Nat.le_refl 0, by simp [lagM]⟩
  | k + 1, h => by
    have h1 := lagM_b s k (fun j hj => h j (by omega)); have h2 := h k (by omega)
    simp only [lagM]; split
    · by_cases hc : (lagM s k).1 = 0 <;> simp [hc] <;> omega
    · omega
set_option maxHeartbeats 4000000 in
set_option maxRecDepth 100000 in
/-- repair -/
theorem c_X4_repair (l : Launch) {g : GG} {a : Nat → Nat} {n : Nat} {A : Nat → Prop} (hA : Ap A a 8) {s : CS} (hm : Mh n s)  (hk : 1 ≤ (tkM (w3 s 9 0 0 0) (s 1 0 0)).2) : Met l yX4_repair wsX4_repair ({ frames := 1, cells := 0, slots := 0, locals := 20 }) (pC g [.ref (a 0)] (wM g a s)) (qI g (nI (s 1 0 0 - (tkM (w3 s 9 0 0 0) (s 1 0 0)).2)) (wM g a (repM s)) A) 0 0 A := by
  refine k_start (cc := cX4_repair) (maxL := 5) (ret := (some .int)) (by decide) rfl (Nat.le_of_ble_eq_true rfl) ?_
  intro pr en s0 m args below meth cd hx hb hml hr hlk hts hown hin hC hP ls hl
  have hS : va_S A s0.heap s0.heap [] := va_S.rf
  have hfx : CallFix pr m cd cX4_repair 5 s0 args wsX4_repair RX4 := ⟨hx, hb, hml, hown, hts⟩
  have hu4 : ∀ w ∈ wsX40, w.before args s0 = true := fun w h => hts w ((by decide +kernel : ∀ w ∈ wsX40, w ∈ wsX4_repair) w h)
  have hl : lv_has ls 5 [(0, .ref (a 0))] := hl
  have m0 := hm.1
  have m1 := hm.2.1
  have mz : Mh n (w3 s 9 0 0 0) := hm.m9
  have f0 := hm.ch (s 1 0 0 - 1) (by omega)
  have loop : ∀ (d k : Nat), s 1 0 0 + 1 ≤ k + d → k ≤ s 1 0 0 → ∀ (H : Heap) (locs : List Loc), va_P g.1 vwCl (wM g a (tkM (w3 s 9 0 0 0) k).1) H → va_S A s0.heap H locs → ∀ ls : Array Slot, lv_has ls 5 [(3, .int (nI k)), (2, .int (nI ((tkM (w3 s 9 0 0 0) k).2))), (1, .int (nI (s 0 0 (s 1 0 0 - 1)))), (0, .ref (a 0))] → W pr l en ({ frames := 1, cells := 0, slots := 0, locals := 20 }) s0 m args below meth cd H locs 0 0 (MQ below (qI g (nI (s 1 0 0 - (tkM (w3 s 9 0 0 0) (s 1 0 0)).2)) (wM g a (repM s)) A) args s0 0 0 A) (F0 m 14 ls []) := by
    intro d
    induction d with
    | zero => intro k h1 h2; exact absurd h1 (by omega)
    | succ d ih =>
      intro k h1 h2 H locs hP hS ls hl
      have e1 : (tkM (w3 s 9 0 0 0) k).1 1 0 0 = s 1 0 0 := (tkM_c (by decide) k).trans (w3_c (by decide))
      have e0 : (tkM (w3 s 9 0 0 0) k).1 0 0 k = s 0 0 k := (tkM_hi k (Nat.le_refl k)).trans (w3_c (by decide))
      have e2 : ∀ i, (tkM (w3 s 9 0 0 0) k).1 2 0 i = s 2 0 i := fun i => (tkM_c (by decide) k).trans (w3_c (by decide))
      have e4 : ∀ i, (tkM (w3 s 9 0 0 0) k).1 4 0 i = s 4 0 i := fun i => (tkM_c (by decide) k).trans (w3_c (by decide))
      have e5 : ∀ i, (tkM (w3 s 9 0 0 0) k).1 5 0 i = s 5 0 i := fun i => (tkM_c (by decide) k).trans (w3_c (by decide))
      have e9 := tkM_le (w3 s 9 0 0 0) k
      have mk := mz.tk (k := k) (by omega)
      refine lv_iload_n hx hb dX4_repair_14 rfl (lv_at hl 0 rfl) ?_
      refine lv_aload_n hx hb dX4_repair_15 rfl (lv_at hl 3 rfl) ?_
      refine va_get (D := g.1) (C := RX4) (T := TX4) (N := 11) (ci := 4) hx hb hu4 (fun _ h => h) hown hC.1 hP _ (wM_obj) rfl 2 (by decide) (hts (.fieldLink RX4 36 "SplicedChainModel" "size" "I") (by decide +kernel)) (fun _ h9 => h9) rfl dX4_repair_16 ?_
      refine k_icmp_ge (tgt := 57) hx hb dX4_repair_19 (by decide) (by omega) (by omega) (fun c19 => ?_) (fun c19 => ?_)
      · skip
        have ek : k = s 1 0 0 := by omega
        have hK1 : 1 ≤ (tkM (w3 s 9 0 0 0) k).2 := by rw [ek]; exact hk
        have f5 := mk.ch ((tkM (w3 s 9 0 0 0) k).2 - 1) (by omega)
        have f6 := hm.nd _ f5
        refine lv_aload_n hx hb dX4_repair_57 rfl (lv_at hl 3 rfl) ?_
        refine va_get (D := g.1) (C := RX4) (T := TX4) (N := 11) (ci := 4) hx hb hu4 (fun _ h => h) hown hC.1 hP _ (wM_obj) rfl 2 (by decide) (hts (.fieldLink RX4 36 "SplicedChainModel" "size" "I") (by decide +kernel)) (fun _ h9 => h9) rfl dX4_repair_58 ?_
        refine lv_iload_n hx hb dX4_repair_61 rfl (lv_at hl 1 rfl) ?_
        refine k_isub (x := (tkM (w3 s 9 0 0 0) k).1 1 0 0) (y := (tkM (w3 s 9 0 0 0) k).2) hx hb (by omega) dX4_repair_62 ?_
        refine k_as (x := s 1 0 0 - (tkM (w3 s 9 0 0 0) k).2) (by rw [e1]) ?_
        refine lv_istore_n (lv' := [(3, .int (nI (s 1 0 0 - (tkM (w3 s 9 0 0 0) k).2))), (2, .int (nI ((tkM (w3 s 9 0 0 0) k).2))), (1, .int (nI (s 0 0 (s 1 0 0 - 1)))), (0, .ref (a 0))]) hx hb dX4_repair_63 rfl hl (by decide) rfl (fun ls hl => ?_)
        refine lv_aload_n hx hb dX4_repair_64 rfl (lv_at hl 3 rfl) ?_
        refine lv_iload_n hx hb dX4_repair_65 rfl (lv_at hl 1 rfl) ?_
        refine va_put (D := g.1) (v := .int (nI ((tkM (w3 s 9 0 0 0) k).2))) (ty := .int) (C := RX4) (T := TX4) (N := 11) (ci := 4) hx hb hu4 (fun _ h => h) tyX4 tyX4_ok nmX4 hown hC.1 hP hA.M hS _ (wM_obj) rfl 2 (by decide) (hts (.fieldLink RX4 36 "SplicedChainModel" "size" "I") (by decide +kernel)) (fun _ h9 => h9) rfl (by decide +kernel) rfl rfl (Nat.le_of_ble_eq_true rfl) dX4_repair_66 (fun H locs hP _ hS => ?_)
        have hP : va_P g.1 vwCl (wM g a (w3 (tkM (w3 s 9 0 0 0) k).1 1 0 0 ((tkM (w3 s 9 0 0 0) k).2))) H := P_eq wpM_size hP
        refine lv_aload_n hx hb dX4_repair_69 rfl (lv_at hl 3 rfl) ?_
        refine kV_i (r := nI ((tkM (w3 s 9 0 0 0) k).1 0 0 ((tkM (w3 s 9 0 0 0) k).2 - 1))) (w2 := wM g a (w3 (tkM (w3 s 9 0 0 0) k).1 1 0 0 ((tkM (w3 s 9 0 0 0) k).2))) (As := []) (b := a 0) (rest := []) (A1 := A) hfx (c_X4_last l (n := n) hA (s := (w3 (tkM (w3 s 9 0 0 0) k).1 1 0 0 ((tkM (w3 s 9 0 0 0) k).2))) (L := (tkM (w3 s 9 0 0 0) k).2) (x := (tkM (w3 s 9 0 0 0) k).1 0 0 ((tkM (w3 s 9 0 0 0) k).2 - 1)) (by simp [w3]) (by simp [w3]) (by omega)) (cwV 0 hts gX4_repair_X4_last rfl rfl rfl (by decide +kernel) ⟨by decide, by decide⟩) (va_recv hC.1 hP (ci := 4) rfl (wM_obj)) hC hP hS (fun _ h => h) rfl hl.1 rfl (Nat.le_of_ble_eq_true rfl) dX4_repair_70 ⟨Nat.le_of_ble_eq_true rfl, Nat.le_of_ble_eq_true rfl⟩ (fun H locs hP hS _ _ => ?_)
        refine lv_istore (lv' := [(4, .int (nI ((tkM (w3 s 9 0 0 0) k).1 0 0 ((tkM (w3 s 9 0 0 0) k).2 - 1)))), (3, .int (nI (s 1 0 0 - (tkM (w3 s 9 0 0 0) k).2))), (2, .int (nI ((tkM (w3 s 9 0 0 0) k).2))), (1, .int (nI (s 0 0 (s 1 0 0 - 1)))), (0, .ref (a 0))]) hx hb dX4_repair_73 hl (by decide) rfl (fun ls hl => ?_)
        refine lv_iload hx hb dX4_repair_75 (lv_at hl 0 rfl) ?_
        refine lv_iload_n hx hb dX4_repair_77 rfl (lv_at hl 3 rfl) ?_
        refine k_icmp_eq (tgt := 123) hx hb dX4_repair_78 (by decide) (by omega) (by omega) (fun c78 => ?_) (fun c78 => ?_)
        · skip
          refine lv_iload_n hx hb dX4_repair_123 rfl (lv_at hl 1 rfl) ?_
          exact k_iret hx hb hr hlk (by rw [ek]) (P_eq (congrArg (wM g a) (by unfold repM rM1 tlM; split <;> rename_i q <;> first | (rw [ek]; done) | (exfalso; rw [ek] at c78; exact q.1 c78) | (exfalso; rw [ek] at c95; exact absurd q.2 (Nat.not_lt.mpr c95)) | (exfalso; rw [ek] at c78 c95; exact q (And.intro c78 c95)))) hP) hS dX4_repair_124
        · skip
          refine lv_aload_n hx hb dX4_repair_81 rfl (lv_at hl 4 rfl) ?_
          refine va_get (D := g.1) (C := RX4) (T := TX4) (N := 11) (ci := 4) hx hb hu4 (fun _ h => h) hown hC.1 hP _ (wM_obj) rfl 7 (by decide) (hts (.fieldLink RX4 23 "SplicedChainModel" "acked" "[I") (by decide +kernel)) (fun _ h9 => h9) rfl dX4_repair_82 ?_
          refine lv_iload hx hb dX4_repair_85 (lv_at hl 0 rfl) ?_
          refine k_iald hx hb hC hP _ (wM_acked) (j := (tkM (w3 s 9 0 0 0) k).1 0 0 ((tkM (w3 s 9 0 0 0) k).2 - 1)) (by omega) (by omega) dX4_repair_87 ?_
          refine k_as (x := s 5 0 ((tkM (w3 s 9 0 0 0) k).1 0 0 ((tkM (w3 s 9 0 0 0) k).2 - 1))) (by rw [w3_c (by decide), e5]) ?_
          refine lv_aload_n hx hb dX4_repair_88 rfl (lv_at hl 4 rfl) ?_
          refine va_get (D := g.1) (C := RX4) (T := TX4) (N := 11) (ci := 4) hx hb hu4 (fun _ h => h) hown hC.1 hP _ (wM_obj) rfl 6 (by decide) (hts (.fieldLink RX4 20 "SplicedChainModel" "history" "[I") (by decide +kernel)) (fun _ h9 => h9) rfl dX4_repair_89 ?_
          refine lv_iload hx hb dX4_repair_92 (lv_at hl 0 rfl) ?_
          refine k_iald hx hb hC hP _ (wM_history) (j := (tkM (w3 s 9 0 0 0) k).1 0 0 ((tkM (w3 s 9 0 0 0) k).2 - 1)) (by omega) (by omega) dX4_repair_94 ?_
          refine k_as (x := s 4 0 ((tkM (w3 s 9 0 0 0) k).1 0 0 ((tkM (w3 s 9 0 0 0) k).2 - 1))) (by rw [w3_c (by decide), e4]) ?_
          refine k_icmp_ge (tgt := 123) hx hb dX4_repair_95 (by decide) (by omega) (by omega) (fun c95 => ?_) (fun c95 => ?_)
          · skip
            refine lv_iload_n hx hb dX4_repair_123 rfl (lv_at hl 1 rfl) ?_
            exact k_iret hx hb hr hlk (by rw [ek]) (P_eq (congrArg (wM g a) (by unfold repM rM1 tlM; split <;> rename_i q <;> first | (rw [ek]; done) | (exfalso; rw [ek] at c78; exact q.1 c78) | (exfalso; rw [ek] at c95; exact absurd q.2 (Nat.not_lt.mpr c95)) | (exfalso; rw [ek] at c78 c95; exact q (And.intro c78 c95)))) hP) hS dX4_repair_124
          · skip
            refine lv_aload_n hx hb dX4_repair_98 rfl (lv_at hl 4 rfl) ?_
            refine va_get (D := g.1) (C := RX4) (T := TX4) (N := 11) (ci := 4) hx hb hu4 (fun _ h => h) hown hC.1 hP _ (wM_obj) rfl 7 (by decide) (hts (.fieldLink RX4 23 "SplicedChainModel" "acked" "[I") (by decide +kernel)) (fun _ h9 => h9) rfl dX4_repair_99 ?_
            refine lv_iload hx hb dX4_repair_102 (lv_at hl 0 rfl) ?_
            refine lv_aload_n hx hb dX4_repair_104 rfl (lv_at hl 4 rfl) ?_
            refine va_get (D := g.1) (C := RX4) (T := TX4) (N := 11) (ci := 4) hx hb hu4 (fun _ h => h) hown hC.1 hP _ (wM_obj) rfl 6 (by decide) (hts (.fieldLink RX4 20 "SplicedChainModel" "history" "[I") (by decide +kernel)) (fun _ h9 => h9) rfl dX4_repair_105 ?_
            refine lv_iload hx hb dX4_repair_108 (lv_at hl 0 rfl) ?_
            refine k_iald hx hb hC hP _ (wM_history) (j := (tkM (w3 s 9 0 0 0) k).1 0 0 ((tkM (w3 s 9 0 0 0) k).2 - 1)) (by omega) (by omega) dX4_repair_110 ?_
            refine k_as (x := s 4 0 ((tkM (w3 s 9 0 0 0) k).1 0 0 ((tkM (w3 s 9 0 0 0) k).2 - 1))) (by rw [w3_c (by decide), e4]) ?_
            refine k_iast hx hb hC hP hA.M hS _ (wM_acked) (j := (tkM (w3 s 9 0 0 0) k).1 0 0 ((tkM (w3 s 9 0 0 0) k).2 - 1)) (by omega) (by omega) dX4_repair_111 wpM_acked (fun H locs hP hS => ?_)
            refine lv_aload_n hx hb dX4_repair_112 rfl (lv_at hl 4 rfl) ?_
            refine lv_aload_n hx hb dX4_repair_113 rfl (lv_at hl 4 rfl) ?_
            refine va_get (D := g.1) (C := RX4) (T := TX4) (N := 11) (ci := 4) hx hb hu4 (fun _ h => h) hown hC.1 hP _ (wM_obj) rfl 6 (by decide) (hts (.fieldLink RX4 20 "SplicedChainModel" "history" "[I") (by decide +kernel)) (fun _ h9 => h9) rfl dX4_repair_114 ?_
            refine lv_iload hx hb dX4_repair_117 (lv_at hl 0 rfl) ?_
            refine k_iald hx hb hC hP _ (wM_history) (j := (tkM (w3 s 9 0 0 0) k).1 0 0 ((tkM (w3 s 9 0 0 0) k).2 - 1)) (by omega) (by omega) dX4_repair_119 ?_
            refine k_as (x := s 4 0 ((tkM (w3 s 9 0 0 0) k).1 0 0 ((tkM (w3 s 9 0 0 0) k).2 - 1))) (by rw [w3_c (by decide), w3_c (by decide), e4]) ?_
            refine va_put (D := g.1) (v := .int (nI (s 4 0 ((tkM (w3 s 9 0 0 0) k).1 0 0 ((tkM (w3 s 9 0 0 0) k).2 - 1))))) (ty := .int) (C := RX4) (T := TX4) (N := 11) (ci := 4) hx hb hu4 (fun _ h => h) tyX4 tyX4_ok nmX4 hown hC.1 hP hA.M hS _ (wM_obj) rfl 10 (by decide) (hts (.fieldLink RX4 50 "SplicedChainModel" "replies" "I") (by decide +kernel)) (fun _ h9 => h9) rfl (by decide +kernel) rfl rfl (Nat.le_of_ble_eq_true rfl) dX4_repair_120 (fun H locs hP _ hS => ?_)
            have hP : va_P g.1 vwCl (wM g a (w3 (w3 (w3 (tkM (w3 s 9 0 0 0) k).1 1 0 0 ((tkM (w3 s 9 0 0 0) k).2)) 5 0 ((tkM (w3 s 9 0 0 0) k).1 0 0 ((tkM (w3 s 9 0 0 0) k).2 - 1)) (s 4 0 ((tkM (w3 s 9 0 0 0) k).1 0 0 ((tkM (w3 s 9 0 0 0) k).2 - 1)))) 8 0 0 (s 4 0 ((tkM (w3 s 9 0 0 0) k).1 0 0 ((tkM (w3 s 9 0 0 0) k).2 - 1))))) H := P_eq wpM_replies hP
            refine lv_iload_n hx hb dX4_repair_123 rfl (lv_at hl 1 rfl) ?_
            exact k_iret hx hb hr hlk (by rw [ek]) (P_eq (congrArg (wM g a) (by unfold repM rM1 tlM; split <;> rename_i q <;> first | (rw [ek]; done) | (exfalso; rw [ek] at c78; exact q.1 c78) | (exfalso; rw [ek] at c95; exact absurd q.2 (Nat.not_lt.mpr c95)) | (exfalso; rw [ek] at c78 c95; exact q (And.intro c78 c95)))) hP) hS dX4_repair_124
      · skip
        have f1 := hm.ch k (by omega)
        have f2 := hm.nd _ f1
        refine lv_aload_n hx hb dX4_repair_22 rfl (lv_at hl 3 rfl) ?_
        refine va_get (D := g.1) (C := RX4) (T := TX4) (N := 11) (ci := 4) hx hb hu4 (fun _ h => h) hown hC.1 hP _ (wM_obj) rfl 4 (by decide) (hts (.fieldLink RX4 13 "SplicedChainModel" "failed" "[Z") (by decide +kernel)) (fun _ h9 => h9) rfl dX4_repair_23 ?_
        refine lv_aload_n hx hb dX4_repair_26 rfl (lv_at hl 3 rfl) ?_
        refine va_get (D := g.1) (C := RX4) (T := TX4) (N := 11) (ci := 4) hx hb hu4 (fun _ h => h) hown hC.1 hP _ (wM_obj) rfl 3 (by decide) (hts (.fieldLink RX4 7 "SplicedChainModel" "chain" "[I") (by decide +kernel)) (fun _ h9 => h9) rfl dX4_repair_27 ?_
        refine lv_iload_n hx hb dX4_repair_30 rfl (lv_at hl 0 rfl) ?_
        refine k_iald hx hb hC hP _ (wM_chain) (j := k) (by omega) (by omega) dX4_repair_31 ?_
        refine k_as (x := s 0 0 k) (by rw [e0]) ?_
        refine k_zald hx hb hC hP _ (wM_failed) (j := s 0 0 k) (by omega) (by omega) dX4_repair_32 ?_
        refine k_as (x := s 2 0 (s 0 0 k)) (by rw [e2]) ?_
        refine k_if_ne (tgt := 51) hx hb dX4_repair_33 (by decide) (by omega) (fun c33 => ?_) (fun c33 => ?_)
        · skip
          have z7 : ¬ s 2 0 (s 0 0 k) = 0 := by omega
          refine lv_iinc (v := nI (k + 1)) (lv' := [(3, .int (nI (k + 1))), (2, .int (nI ((tkM (w3 s 9 0 0 0) k).2))), (1, .int (nI (s 0 0 (s 1 0 0 - 1)))), (0, .ref (a 0))]) hx hb dX4_repair_51 hl (k := 0) rfl (nI_add _ _) (by decide) rfl (fun ls hl => ?_)
          refine lv_goto (tgt := 14) hx hb dX4_repair_54 (by decide) ?_
          exact ih (k + 1) (by omega) (by omega) H locs (by rw [show (tkM (w3 s 9 0 0 0) (k + 1)).1 = (tkM (w3 s 9 0 0 0) k).1 by simp [tkM, w3, z7]]; exact hP) hS ls (by rw [show (tkM (w3 s 9 0 0 0) (k + 1)).2 = (tkM (w3 s 9 0 0 0) k).2 by simp [tkM, w3, z7]]; exact lv_sub hl [0, 1, 2, 3] rfl)
        · skip
          have z7 : s 2 0 (s 0 0 k) = 0 := by omega
          refine lv_aload_n hx hb dX4_repair_36 rfl (lv_at hl 3 rfl) ?_
          refine va_get (D := g.1) (C := RX4) (T := TX4) (N := 11) (ci := 4) hx hb hu4 (fun _ h => h) hown hC.1 hP _ (wM_obj) rfl 3 (by decide) (hts (.fieldLink RX4 7 "SplicedChainModel" "chain" "[I") (by decide +kernel)) (fun _ h9 => h9) rfl dX4_repair_37 ?_
          refine lv_iload_n hx hb dX4_repair_40 rfl (lv_at hl 1 rfl) ?_
          refine lv_aload_n hx hb dX4_repair_41 rfl (lv_at hl 3 rfl) ?_
          refine va_get (D := g.1) (C := RX4) (T := TX4) (N := 11) (ci := 4) hx hb hu4 (fun _ h => h) hown hC.1 hP _ (wM_obj) rfl 3 (by decide) (hts (.fieldLink RX4 7 "SplicedChainModel" "chain" "[I") (by decide +kernel)) (fun _ h9 => h9) rfl dX4_repair_42 ?_
          refine lv_iload_n hx hb dX4_repair_45 rfl (lv_at hl 0 rfl) ?_
          refine k_iald hx hb hC hP _ (wM_chain) (j := k) (by omega) (by omega) dX4_repair_46 ?_
          refine k_as (x := s 0 0 k) (by rw [e0]) ?_
          refine k_iast hx hb hC hP hA.M hS _ (wM_chain) (j := (tkM (w3 s 9 0 0 0) k).2) (by omega) (by omega) dX4_repair_47 wpM_chain (fun H locs hP hS => ?_)
          refine lv_iinc (v := nI ((tkM (w3 s 9 0 0 0) k).2 + 1)) (lv' := [(2, .int (nI ((tkM (w3 s 9 0 0 0) k).2 + 1))), (3, .int (nI k)), (1, .int (nI (s 0 0 (s 1 0 0 - 1)))), (0, .ref (a 0))]) hx hb dX4_repair_48 hl (k := 1) rfl (nI_add _ _) (by decide) rfl (fun ls hl => ?_)
          refine lv_iinc (v := nI (k + 1)) (lv' := [(3, .int (nI (k + 1))), (2, .int (nI ((tkM (w3 s 9 0 0 0) k).2 + 1))), (1, .int (nI (s 0 0 (s 1 0 0 - 1)))), (0, .ref (a 0))]) hx hb dX4_repair_51 hl (k := 1) rfl (nI_add _ _) (by decide) rfl (fun ls hl => ?_)
          refine lv_goto (tgt := 14) hx hb dX4_repair_54 (by decide) ?_
          exact ih (k + 1) (by omega) (by omega) H locs (by rw [show (tkM (w3 s 9 0 0 0) (k + 1)).1 = w3 (tkM (w3 s 9 0 0 0) k).1 0 0 (tkM (w3 s 9 0 0 0) k).2 (s 0 0 k) by simp [tkM, w3, z7]]; exact hP) hS ls (by rw [show (tkM (w3 s 9 0 0 0) (k + 1)).2 = (tkM (w3 s 9 0 0 0) k).2 + 1 by simp [tkM, w3, z7]]; exact lv_sub hl [0, 1, 2, 3] rfl)
  refine lv_aload_n hx hb dX4_repair_0 rfl (lv_at hl 0 rfl) ?_
  refine k_ic (x := 0) hx hb dX4_repair_1 (by decide) ?_
  refine va_put (D := g.1) (v := .int (nI 0)) (ty := .int) (C := RX4) (T := TX4) (N := 11) (ci := 4) hx hb hu4 (fun _ h => h) tyX4 tyX4_ok nmX4 hown hC.1 hP hA.M hS _ (wM_obj) rfl 1 (by decide) (hts (.fieldLink RX4 39 "SplicedChainModel" "thrown" "I") (by decide +kernel)) (fun _ h9 => h9) rfl (by decide +kernel) rfl rfl (Nat.le_of_ble_eq_true rfl) dX4_repair_2 (fun H locs hP _ hS => ?_)
  have hP : va_P g.1 vwCl (wM g a (w3 s 9 0 0 0)) H := P_eq wpM_thrown hP
  refine lv_aload_n hx hb dX4_repair_5 rfl (lv_at hl 0 rfl) ?_
  refine kV_i (r := nI (s 0 0 (s 1 0 0 - 1))) (w2 := wM g a (w3 s 9 0 0 0)) (As := []) (b := a 0) (rest := []) (A1 := A) hfx (c_X4_last l (n := n) hA (s := (w3 s 9 0 0 0)) (L := s 1 0 0) (x := s 0 0 (s 1 0 0 - 1)) (by simp [w3]) (by simp [w3]) (by omega)) (cwV 0 hts gX4_repair_X4_last rfl rfl rfl (by decide +kernel) ⟨by decide, by decide⟩) (va_recv hC.1 hP (ci := 4) rfl (wM_obj)) hC hP hS (fun _ h => h) rfl hl.1 rfl (Nat.le_of_ble_eq_true rfl) dX4_repair_6 ⟨Nat.le_of_ble_eq_true rfl, Nat.le_of_ble_eq_true rfl⟩ (fun H locs hP hS _ _ => ?_)
  refine lv_istore_n (lv' := [(1, .int (nI (s 0 0 (s 1 0 0 - 1)))), (0, .ref (a 0))]) hx hb dX4_repair_9 rfl hl (by decide) rfl (fun ls hl => ?_)
  refine k_ic (x := 0) hx hb dX4_repair_10 (by decide) ?_
  refine lv_istore_n (lv' := [(2, .int (nI 0)), (1, .int (nI (s 0 0 (s 1 0 0 - 1)))), (0, .ref (a 0))]) hx hb dX4_repair_11 rfl hl (by decide) rfl (fun ls hl => ?_)
  refine k_ic (x := 0) hx hb dX4_repair_12 (by decide) ?_
  refine lv_istore_n (lv' := [(3, .int (nI 0)), (2, .int (nI 0)), (1, .int (nI (s 0 0 (s 1 0 0 - 1)))), (0, .ref (a 0))]) hx hb dX4_repair_13 rfl hl (by decide) rfl (fun ls hl => ?_)
  exact loop (s 1 0 0 + 1) 0 (by omega) (by omega) _ _ hP hS ls (lv_sub hl [0, 1, 2, 3] rfl)
set_option maxHeartbeats 4000000 in
set_option maxRecDepth 100000 in
/-- lag -/
theorem c_X4_lag (l : Launch) {g : GG} {a : Nat → Nat} {n : Nat} {A : Nat → Prop} (hA : Ap A a 8) {s : CS} (hm : Mh n s)  (hmono : ∀ j k, j ≤ k → k < s 1 0 0 → s 4 0 (s 0 0 k) ≤ s 4 0 (s 0 0 j)) (hstand : (lagM s (s 1 0 0)).1 ≠ 0) : Met l yX4_lag wsX4_lag ({ frames := 0, cells := 0, slots := 0, locals := 0 }) (pC g [.ref (a 0)] (wM g a s)) (qD g (quo (lagM s (s 1 0 0)).2.2 (lagM s (s 1 0 0)).1) (wM g a (w3 s 9 0 0 0)) A) 0 0 A := by
  refine k_start (cc := cX4_lag) (maxL := 5) (ret := (some .double)) (by decide) rfl (Nat.le_of_ble_eq_true rfl) ?_
  intro pr en s0 m args below meth cd hx hb hml hr hlk hts hown hin hC hP ls hl
  have hS : va_S A s0.heap s0.heap [] := va_S.rf
  have hfx : CallFix pr m cd cX4_lag 5 s0 args wsX4_lag RX4 := ⟨hx, hb, hml, hown, hts⟩
  have hu4 : ∀ w ∈ wsX40, w.before args s0 = true := fun w h => hts w ((by decide +kernel : ∀ w ∈ wsX40, w ∈ wsX4_lag) w h)
  have hl : lv_has ls 5 [(0, .ref (a 0))] := hl
  have m0 := hm.1
  have m1 := hm.2.1
  have f5 : ∀ k, k < s 1 0 0 → s 4 0 (s 0 0 k) ≤ 40 := fun k hk => (hm.nd _ (hm.ch k (by omega))).1
  have loop : ∀ (d k : Nat), s 1 0 0 + 1 ≤ k + d → k ≤ s 1 0 0 → ∀ T : Int32, (((lagM s k).1 = 0 → T = -1) ∧ ((lagM s k).1 ≠ 0 → T = nI (lagM s k).2.1)) → ∀ (H : Heap) (locs : List Loc), va_P g.1 vwCl (wM g a (w3 s 9 0 0 0)) H → va_S A s0.heap H locs → ∀ ls : Array Slot, lv_has ls 5 [(4, .int (nI k)), (3, .int (nI ((lagM s k).1))), (2, .int (nI ((lagM s k).2.2))), (1, .int (T)), (0, .ref (a 0))] → W pr l en ({ frames := 0, cells := 0, slots := 0, locals := 0 }) s0 m args below meth cd H locs 0 0 (MQ below (qD g (quo (lagM s (s 1 0 0)).2.2 (lagM s (s 1 0 0)).1) (wM g a (w3 s 9 0 0 0)) A) args s0 0 0 A) (F0 m 14 ls []) := by
    intro d
    induction d with
    | zero => intro k h1 h2; exact absurd h1 (by omega)
    | succ d ih =>
      intro k h1 h2 T hT H locs hP hS ls hl
      have g1 := lagM_c s k
      have g2 := lagM_b s k (fun j hj => f5 j (by omega))
      refine lv_iload hx hb dX4_lag_14 (lv_at hl 0 rfl) ?_
      refine lv_aload_n hx hb dX4_lag_16 rfl (lv_at hl 4 rfl) ?_
      refine va_get (D := g.1) (C := RX4) (T := TX4) (N := 11) (ci := 4) hx hb hu4 (fun _ h => h) hown hC.1 hP _ (wM_obj) rfl 2 (by decide) (hts (.fieldLink RX4 36 "SplicedChainModel" "size" "I") (by decide +kernel)) (fun _ h9 => h9) rfl dX4_lag_17 ?_
      refine k_as (x := s 1 0 0) (by simp [w3]) ?_
      refine k_icmp_ge (tgt := 85) hx hb dX4_lag_20 (by decide) (by omega) (by omega) (fun c20 => ?_) (fun c20 => ?_)
      · skip
        have ek : k = s 1 0 0 := by omega
        refine lv_iload_n hx hb dX4_lag_85 rfl (lv_at hl 2 rfl) ?_
        refine lv_i2d hx hb dX4_lag_86 ?_
        refine lv_iload_n hx hb dX4_lag_87 rfl (lv_at hl 1 rfl) ?_
        refine lv_i2d hx hb dX4_lag_88 ?_
        refine lv_ddiv hx hb dX4_lag_89 ((quo_all _ (by omega) _ (by omega) (by rw [ek]; exact hstand)).1) ?_
        exact k_dret hx hb hr hlk (by rw [ek]; rfl) hP hS dX4_lag_90
      · skip
        have f1 := hm.ch k (by omega)
        have f2 := hm.nd _ f1
        refine lv_aload_n hx hb dX4_lag_23 rfl (lv_at hl 4 rfl) ?_
        refine va_get (D := g.1) (C := RX4) (T := TX4) (N := 11) (ci := 4) hx hb hu4 (fun _ h => h) hown hC.1 hP _ (wM_obj) rfl 4 (by decide) (hts (.fieldLink RX4 13 "SplicedChainModel" "failed" "[Z") (by decide +kernel)) (fun _ h9 => h9) rfl dX4_lag_24 ?_
        refine lv_aload_n hx hb dX4_lag_27 rfl (lv_at hl 4 rfl) ?_
        refine va_get (D := g.1) (C := RX4) (T := TX4) (N := 11) (ci := 4) hx hb hu4 (fun _ h => h) hown hC.1 hP _ (wM_obj) rfl 3 (by decide) (hts (.fieldLink RX4 7 "SplicedChainModel" "chain" "[I") (by decide +kernel)) (fun _ h9 => h9) rfl dX4_lag_28 ?_
        refine lv_iload hx hb dX4_lag_31 (lv_at hl 0 rfl) ?_
        refine k_iald hx hb hC hP _ (wM_chain) (j := k) (by omega) (by omega) dX4_lag_33 ?_
        refine k_as (x := s 0 0 k) (by simp [w3]) ?_
        refine k_zald hx hb hC hP _ (wM_failed) (j := s 0 0 k) (by omega) (by omega) dX4_lag_34 ?_
        refine k_as (x := s 2 0 (s 0 0 k)) (by simp [w3]) ?_
        refine k_if_ne (tgt := 79) hx hb dX4_lag_35 (by decide) (by omega) (fun c35 => ?_) (fun c35 => ?_)
        · skip
          have z7 : ¬ s 2 0 (s 0 0 k) = 0 := by omega
          refine lv_iinc (v := nI (k + 1)) (lv' := [(4, .int (nI (k + 1))), (3, .int (nI ((lagM s k).1))), (2, .int (nI ((lagM s k).2.2))), (1, .int (T)), (0, .ref (a 0))]) hx hb dX4_lag_79 hl (k := 0) rfl (nI_add _ _) (by decide) rfl (fun ls hl => ?_)
          refine lv_goto (tgt := 14) hx hb dX4_lag_82 (by decide) ?_
          exact ih (k + 1) (by omega) (by omega) T (by rw [show lagM s (k + 1) = lagM s k by simp [lagM, z7]]; exact hT) H locs hP hS ls (by rw [show lagM s (k + 1) = lagM s k by simp [lagM, z7]]; exact lv_sub hl [0, 1, 2, 3, 4] rfl)
        · skip
          have z7 : s 2 0 (s 0 0 k) = 0 := by omega
          refine lv_iload_n hx hb dX4_lag_38 rfl (lv_at hl 3 rfl) ?_
          refine lv_if_ge (tgt := 57) hx hb dX4_lag_39 (by decide) (fun c39 => ?_) (fun c39 => ?_)
          · skip
            have z1 : ¬ (lagM s k).1 = 0 := fun q => by rw [hT.1 q] at c39; exact absurd c39 (by decide)
            have f3 : s 4 0 (s 0 0 k) ≤ (lagM s k).2.1 := by obtain ⟨j, q1, q2⟩ := lagM_f s k z1; rw [q2]; exact hmono j k (by omega) (by omega)
            refine lv_iload_n hx hb dX4_lag_57 rfl (lv_at hl 3 rfl) ?_
            refine k_as (x := (lagM s k).2.1) (hT.2 z1) ?_
            refine lv_istore_n (lv' := [(1, .int (nI ((lagM s k).2.1))), (4, .int (nI k)), (3, .int (nI ((lagM s k).1))), (2, .int (nI ((lagM s k).2.2))), (0, .ref (a 0))]) hx hb dX4_lag_58 rfl hl (by decide) rfl (fun ls hl => ?_)
            refine lv_iload_n hx hb dX4_lag_59 rfl (lv_at hl 3 rfl) ?_
            refine lv_iload_n hx hb dX4_lag_60 rfl (lv_at hl 0 rfl) ?_
            refine k_iadd (x := (lagM s k).2.2) (y := (lagM s k).2.1) hx hb dX4_lag_61 ?_
            refine lv_aload_n hx hb dX4_lag_62 rfl (lv_at hl 4 rfl) ?_
            refine va_get (D := g.1) (C := RX4) (T := TX4) (N := 11) (ci := 4) hx hb hu4 (fun _ h => h) hown hC.1 hP _ (wM_obj) rfl 6 (by decide) (hts (.fieldLink RX4 20 "SplicedChainModel" "history" "[I") (by decide +kernel)) (fun _ h9 => h9) rfl dX4_lag_63 ?_
            refine lv_aload_n hx hb dX4_lag_66 rfl (lv_at hl 4 rfl) ?_
            refine va_get (D := g.1) (C := RX4) (T := TX4) (N := 11) (ci := 4) hx hb hu4 (fun _ h => h) hown hC.1 hP _ (wM_obj) rfl 3 (by decide) (hts (.fieldLink RX4 7 "SplicedChainModel" "chain" "[I") (by decide +kernel)) (fun _ h9 => h9) rfl dX4_lag_67 ?_
            refine lv_iload hx hb dX4_lag_70 (lv_at hl 1 rfl) ?_
            refine k_iald hx hb hC hP _ (wM_chain) (j := k) (by omega) (by omega) dX4_lag_72 ?_
            refine k_as (x := s 0 0 k) (by simp [w3]) ?_
            refine k_iald hx hb hC hP _ (wM_history) (j := s 0 0 k) (by omega) (by omega) dX4_lag_73 ?_
            refine k_as (x := s 4 0 (s 0 0 k)) (by simp [w3]) ?_
            refine k_isub (x := ((lagM s k).2.2) + ((lagM s k).2.1)) (y := s 4 0 (s 0 0 k)) hx hb (by omega) dX4_lag_74 ?_
            refine k_as (x := ((lagM s k).2.2) + (((lagM s k).2.1) - s 4 0 (s 0 0 k))) (by congr 1; omega) ?_
            refine lv_istore_n (lv' := [(2, .int (nI (((lagM s k).2.2) + (((lagM s k).2.1) - s 4 0 (s 0 0 k))))), (1, .int (nI ((lagM s k).2.1))), (4, .int (nI k)), (3, .int (nI ((lagM s k).1))), (0, .ref (a 0))]) hx hb dX4_lag_75 rfl hl (by decide) rfl (fun ls hl => ?_)
            refine lv_iinc (v := nI ((lagM s k).1 + 1)) (lv' := [(3, .int (nI ((lagM s k).1 + 1))), (2, .int (nI (((lagM s k).2.2) + (((lagM s k).2.1) - s 4 0 (s 0 0 k))))), (1, .int (nI ((lagM s k).2.1))), (4, .int (nI k)), (0, .ref (a 0))]) hx hb dX4_lag_76 hl (k := 3) rfl (nI_add _ _) (by decide) rfl (fun ls hl => ?_)
            refine lv_iinc (v := nI (k + 1)) (lv' := [(4, .int (nI (k + 1))), (3, .int (nI ((lagM s k).1 + 1))), (2, .int (nI (((lagM s k).2.2) + (((lagM s k).2.1) - s 4 0 (s 0 0 k))))), (1, .int (nI ((lagM s k).2.1))), (0, .ref (a 0))]) hx hb dX4_lag_79 hl (k := 3) rfl (nI_add _ _) (by decide) rfl (fun ls hl => ?_)
            refine lv_goto (tgt := 14) hx hb dX4_lag_82 (by decide) ?_
            exact ih (k + 1) (by omega) (by omega) (nI ((lagM s k).2.1)) (by rw [show lagM s (k + 1) = ((lagM s k).1 + 1, (lagM s k).2.1, ((lagM s k).2.2) + (((lagM s k).2.1) - s 4 0 (s 0 0 k))) by simp [lagM, z7, z1]]; exact ⟨fun q => absurd q (by simp), fun _ => rfl⟩) H locs hP hS ls (by rw [show lagM s (k + 1) = ((lagM s k).1 + 1, (lagM s k).2.1, ((lagM s k).2.2) + (((lagM s k).2.1) - s 4 0 (s 0 0 k))) by simp [lagM, z7, z1]]; exact lv_sub hl [0, 1, 2, 3, 4] rfl)
          · skip
            have z1 : (lagM s k).1 = 0 := Decidable.byContradiction fun q => c39 (by rw [hT.2 q]; exact nI_pos' (by omega))
            refine lv_aload_n hx hb dX4_lag_42 rfl (lv_at hl 4 rfl) ?_
            refine va_get (D := g.1) (C := RX4) (T := TX4) (N := 11) (ci := 4) hx hb hu4 (fun _ h => h) hown hC.1 hP _ (wM_obj) rfl 6 (by decide) (hts (.fieldLink RX4 20 "SplicedChainModel" "history" "[I") (by decide +kernel)) (fun _ h9 => h9) rfl dX4_lag_43 ?_
            refine lv_aload_n hx hb dX4_lag_46 rfl (lv_at hl 4 rfl) ?_
            refine va_get (D := g.1) (C := RX4) (T := TX4) (N := 11) (ci := 4) hx hb hu4 (fun _ h => h) hown hC.1 hP _ (wM_obj) rfl 3 (by decide) (hts (.fieldLink RX4 7 "SplicedChainModel" "chain" "[I") (by decide +kernel)) (fun _ h9 => h9) rfl dX4_lag_47 ?_
            refine lv_iload hx hb dX4_lag_50 (lv_at hl 0 rfl) ?_
            refine k_iald hx hb hC hP _ (wM_chain) (j := k) (by omega) (by omega) dX4_lag_52 ?_
            refine k_as (x := s 0 0 k) (by simp [w3]) ?_
            refine k_iald hx hb hC hP _ (wM_history) (j := s 0 0 k) (by omega) (by omega) dX4_lag_53 ?_
            refine k_as (x := s 4 0 (s 0 0 k)) (by simp [w3]) ?_
            refine lv_goto (tgt := 58) hx hb dX4_lag_54 (by decide) ?_
            refine lv_istore_n (lv' := [(1, .int (nI (s 4 0 (s 0 0 k)))), (4, .int (nI k)), (3, .int (nI ((lagM s k).1))), (2, .int (nI ((lagM s k).2.2))), (0, .ref (a 0))]) hx hb dX4_lag_58 rfl hl (by decide) rfl (fun ls hl => ?_)
            refine lv_iload_n hx hb dX4_lag_59 rfl (lv_at hl 3 rfl) ?_
            refine lv_iload_n hx hb dX4_lag_60 rfl (lv_at hl 0 rfl) ?_
            refine k_iadd (x := (lagM s k).2.2) (y := s 4 0 (s 0 0 k)) hx hb dX4_lag_61 ?_
            refine lv_aload_n hx hb dX4_lag_62 rfl (lv_at hl 4 rfl) ?_
            refine va_get (D := g.1) (C := RX4) (T := TX4) (N := 11) (ci := 4) hx hb hu4 (fun _ h => h) hown hC.1 hP _ (wM_obj) rfl 6 (by decide) (hts (.fieldLink RX4 20 "SplicedChainModel" "history" "[I") (by decide +kernel)) (fun _ h9 => h9) rfl dX4_lag_63 ?_
            refine lv_aload_n hx hb dX4_lag_66 rfl (lv_at hl 4 rfl) ?_
            refine va_get (D := g.1) (C := RX4) (T := TX4) (N := 11) (ci := 4) hx hb hu4 (fun _ h => h) hown hC.1 hP _ (wM_obj) rfl 3 (by decide) (hts (.fieldLink RX4 7 "SplicedChainModel" "chain" "[I") (by decide +kernel)) (fun _ h9 => h9) rfl dX4_lag_67 ?_
            refine lv_iload hx hb dX4_lag_70 (lv_at hl 1 rfl) ?_
            refine k_iald hx hb hC hP _ (wM_chain) (j := k) (by omega) (by omega) dX4_lag_72 ?_
            refine k_as (x := s 0 0 k) (by simp [w3]) ?_
            refine k_iald hx hb hC hP _ (wM_history) (j := s 0 0 k) (by omega) (by omega) dX4_lag_73 ?_
            refine k_as (x := s 4 0 (s 0 0 k)) (by simp [w3]) ?_
            refine k_isub (x := ((lagM s k).2.2) + (s 4 0 (s 0 0 k))) (y := s 4 0 (s 0 0 k)) hx hb (by omega) dX4_lag_74 ?_
            refine k_as (x := ((lagM s k).2.2) + ((s 4 0 (s 0 0 k)) - s 4 0 (s 0 0 k))) (by congr 1; omega) ?_
            refine lv_istore_n (lv' := [(2, .int (nI (((lagM s k).2.2) + ((s 4 0 (s 0 0 k)) - s 4 0 (s 0 0 k))))), (1, .int (nI (s 4 0 (s 0 0 k)))), (4, .int (nI k)), (3, .int (nI ((lagM s k).1))), (0, .ref (a 0))]) hx hb dX4_lag_75 rfl hl (by decide) rfl (fun ls hl => ?_)
            refine lv_iinc (v := nI ((lagM s k).1 + 1)) (lv' := [(3, .int (nI ((lagM s k).1 + 1))), (2, .int (nI (((lagM s k).2.2) + ((s 4 0 (s 0 0 k)) - s 4 0 (s 0 0 k))))), (1, .int (nI (s 4 0 (s 0 0 k)))), (4, .int (nI k)), (0, .ref (a 0))]) hx hb dX4_lag_76 hl (k := 3) rfl (nI_add _ _) (by decide) rfl (fun ls hl => ?_)
            refine lv_iinc (v := nI (k + 1)) (lv' := [(4, .int (nI (k + 1))), (3, .int (nI ((lagM s k).1 + 1))), (2, .int (nI (((lagM s k).2.2) + ((s 4 0 (s 0 0 k)) - s 4 0 (s 0 0 k))))), (1, .int (nI (s 4 0 (s 0 0 k)))), (0, .ref (a 0))]) hx hb dX4_lag_79 hl (k := 3) rfl (nI_add _ _) (by decide) rfl (fun ls hl => ?_)
            refine lv_goto (tgt := 14) hx hb dX4_lag_82 (by decide) ?_
            exact ih (k + 1) (by omega) (by omega) (nI (s 4 0 (s 0 0 k))) (by rw [show lagM s (k + 1) = ((lagM s k).1 + 1, s 4 0 (s 0 0 k), ((lagM s k).2.2) + ((s 4 0 (s 0 0 k)) - s 4 0 (s 0 0 k))) by simp [lagM, z7, z1]]; exact ⟨fun q => absurd q (by simp), fun _ => rfl⟩) H locs hP hS ls (by rw [show lagM s (k + 1) = ((lagM s k).1 + 1, s 4 0 (s 0 0 k), ((lagM s k).2.2) + ((s 4 0 (s 0 0 k)) - s 4 0 (s 0 0 k))) by simp [lagM, z7, z1]]; exact lv_sub hl [0, 1, 2, 3, 4] rfl)
  refine lv_aload_n hx hb dX4_lag_0 rfl (lv_at hl 0 rfl) ?_
  refine k_ic (x := 0) hx hb dX4_lag_1 (by decide) ?_
  refine va_put (D := g.1) (v := .int (nI 0)) (ty := .int) (C := RX4) (T := TX4) (N := 11) (ci := 4) hx hb hu4 (fun _ h => h) tyX4 tyX4_ok nmX4 hown hC.1 hP hA.M hS _ (wM_obj) rfl 1 (by decide) (hts (.fieldLink RX4 39 "SplicedChainModel" "thrown" "I") (by decide +kernel)) (fun _ h9 => h9) rfl (by decide +kernel) rfl rfl (Nat.le_of_ble_eq_true rfl) dX4_lag_2 (fun H locs hP _ hS => ?_)
  have hP : va_P g.1 vwCl (wM g a (w3 s 9 0 0 0)) H := P_eq wpM_thrown hP
  refine lv_iconst (v := -1) hx hb dX4_lag_5 (by decide) ?_
  refine lv_istore_n (lv' := [(1, .int (-1)), (0, .ref (a 0))]) hx hb dX4_lag_6 rfl hl (by decide) rfl (fun ls hl => ?_)
  refine k_ic (x := 0) hx hb dX4_lag_7 (by decide) ?_
  refine lv_istore_n (lv' := [(2, .int (nI 0)), (1, .int (-1)), (0, .ref (a 0))]) hx hb dX4_lag_8 rfl hl (by decide) rfl (fun ls hl => ?_)
  refine k_ic (x := 0) hx hb dX4_lag_9 (by decide) ?_
  refine lv_istore_n (lv' := [(3, .int (nI 0)), (2, .int (nI 0)), (1, .int (-1)), (0, .ref (a 0))]) hx hb dX4_lag_10 rfl hl (by decide) rfl (fun ls hl => ?_)
  refine k_ic (x := 0) hx hb dX4_lag_11 (by decide) ?_
  refine lv_istore (lv' := [(4, .int (nI 0)), (3, .int (nI 0)), (2, .int (nI 0)), (1, .int (-1)), (0, .ref (a 0))]) hx hb dX4_lag_12 hl (by decide) rfl (fun ls hl => ?_)
  exact loop (s 1 0 0 + 1) 0 (by omega) (by omega) (-1) ⟨fun _ => rfl, fun q => absurd rfl q⟩ _ _ hP hS ls (lv_sub hl [0, 1, 2, 3, 4] rfl)
