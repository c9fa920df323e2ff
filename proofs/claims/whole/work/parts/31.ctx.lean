/-! WHAT HOLDS AT THE LAW'S ENTRY -/
theorem arr_prim {s : State} {args : Array Value} {ty : FieldType} (h : (Cond.arrayClass ty).before args s = true) (hty : ∀ cA, s.vm.findClass ("[" ++ ty.toString) = some cA → va_RA s cA ty) : ∃ cA, ArrOfT s cA ty ∧ va_RA s cA ty := by
  obtain ⟨cA, kA, comp, h1, h2, h3⟩ := Cond.arrayClass_spec h
  exact ⟨cA, fun n z => ⟨fun k h => (by cases h), kA, h2, comp, h3⟩, hty cA h1⟩
theorem arr_node {s : State} {args : Array Value} {C : String} (h : (Cond.arrayOver (.object C)).before args s = true) : ∃ cA, ArrOfT s cA (.object C) ∧ va_RA s cA (.object C) := by
  obtain ⟨comp, cA, kA, h1, -, h2, h3, h4⟩ := Cond.arrayOver_spec h
  exact ⟨cA, fun n z => ⟨fun k h => (by cases h), kA, h2, comp, h3⟩, kA, comp, h2, h3, h1, h4⟩
set_option maxHeartbeats 4000000 in
set_option maxRecDepth 100000 in
theorem law_cx {s : State} {args : Array Value} (hts : ∀ w ∈ lw_tbl, w.before args s = true) : ∃ g : GG, Cx g s := by
  obtain ⟨c0, i0, k0⟩ := u_known (C := RX0) (T := TX0) (N := 3) (n := 3) hts inX0 (hts (.instantiable RX0 3) (by decide +kernel))
  obtain ⟨c1, i1, k1⟩ := u_known (C := RX1) (T := TX1) (N := 5) (n := 5) hts inX1 (hts (.instantiable RX1 5) (by decide +kernel))
  obtain ⟨c2, i2, k2⟩ := u_known (C := RX2) (T := TX2) (N := 3) (n := 3) hts inX2 (hts (.instantiable RX2 3) (by decide +kernel))
  obtain ⟨c3, i3, k3⟩ := u_known (C := RX3) (T := TX3) (N := 6) (n := 6) hts inX3 (hts (.instantiable RX3 6) (by decide +kernel))
  obtain ⟨c4, i4, k4⟩ := u_known (C := RX4) (T := TX4) (N := 11) (n := 11) hts inX4 (hts (.instantiable RX4 11) (by decide +kernel))
  obtain ⟨aI, hI⟩ := arr_prim (ty := .int) (hts (.arrayClass .int) (by decide +kernel)) (fun _ h => h)
  obtain ⟨aZ, hZ⟩ := arr_prim (ty := .boolean) (hts (.arrayClass .boolean) (by decide +kernel)) (fun _ h => h)
  obtain ⟨aJ, hJ⟩ := arr_prim (ty := .long) (hts (.arrayClass .long) (by decide +kernel)) (fun _ h => h)
  obtain ⟨aN, hN⟩ := arr_node (C := RX1) (hts (.arrayOver (.object RX1)) (by decide +kernel))
  refine ⟨((fun k => if k = 0 then c0 else if k = 1 then c1 else if k = 2 then c2 else if k = 3 then c3 else c4, fun k => if k = 0 then i0 else if k = 1 then i1 else if k = 2 then i2 else if k = 3 then i3 else i4), (aI, aZ, aN, aJ)), ⟨fun k q hq => ?_, fun k q hq => ?_⟩, fun q hq => ?_, fun q hq => ?_, va_AO.of (hts (.arrayOver (.object RX1)) (by decide +kernel))⟩
  · match k, hq with
    | 0, hq => cases hq; exact k0
    | 1, hq => cases hq; exact k1
    | 2, hq => cases hq; exact k2
    | 3, hq => cases hq; exact k3
    | 4, hq => cases hq; exact k4
    | k + 5, hq => simp [vwCl] at hq
  · match k, hq with
    | 0, hq => cases hq; exact hI
    | 1, hq => cases hq; exact hZ
    | 2, hq => cases hq; exact hN
    | 3, hq => cases hq; exact hJ
    | k + 4, hq => simp [gT] at hq
  · exact va_Nw.of rfl (hts _ ((by decide +kernel : ∀ q ∈ nFs, Cond.fieldLinkNest RX3 q.1 q.2.1 q.2.2.1 q.2.2.2 RX3 ∈ lw_tbl) q hq))
  · exact va_Nw.of rfl (hts _ ((by decide +kernel : ∀ q ∈ nMs, Cond.methodLinkNest q.1 q.2.1 q.2.2 RX3 ∈ lw_tbl) q hq))
set_option maxHeartbeats 4000000 in
set_option maxRecDepth 100000 in
theorem law_nx {s : State} {args : Array Value} (hgv : (Jvm.Cond.and given_1 narrow_1).before args s = true) : Nx s := by
  have hs := flat_of_before _ hgv
  exact ⟨va_Nc.of (args := args) (hs _ (by decide +kernel)), va_Nc.of (args := args) (hs _ (by decide +kernel)), va_Nc.of (args := args) (hs _ (by decide +kernel))⟩
set_option maxHeartbeats 4000000 in
set_option maxRecDepth 100000 in
theorem law_tx {s : State} {args : Array Value} (hts : ∀ w ∈ lw_tbl, w.before args s = true) (hgv : (Jvm.Cond.and given_1 narrow_1).before args s = true) : ∃ sa, Tx sa (A0 s) s s.heap := by
  have hs := flat_of_before _ hgv
  have hA : ∀ a : Nat, a < s.heap.size → ¬ A0 s a := fun a h => Nat.not_le.mpr h
  have hex : ∀ q ∈ sLs, (Cond.exactly (.string RX3 q.1) "java/lang/String").before args s = true := fun q hq => hs _ ((by decide +kernel : ∀ q ∈ sLs, Cond.exactly (.string RX3 q.1) "java/lang/String" ∈ flatC (Jvm.Cond.and given_1 narrow_1)) q hq)
  have h0 : ∀ k : Nat, ∃ a : Nat, (∃ t, (k, t) ∈ sLs) → (Term.string RX3 k).eval args s none [] s = some (.ref a) := fun k => by
    by_cases hk : ∃ t, (k, t) ∈ sLs
    · obtain ⟨t, ht⟩ := hk
      obtain ⟨a, c, cA, kA, q1, -⟩ := Cond.exactly_spec (args := args) (first := s) (o := none) (s := s) (idx := []) (hex _ ht)
      exact ⟨a, fun _ => q1⟩
    · exact ⟨0, fun h => absurd h hk⟩
  obtain ⟨sa, hsa⟩ := Classical.axiomOfChoice h0
  refine ⟨sa, vx_Zqof (args := args) (hts _ (by decide +kernel)) (hts _ (by decide +kernel)) (hs _ (by decide +kernel)) hA, vx_Zqof (args := args) (hts _ (by decide +kernel)) (hts _ (by decide +kernel)) (hs _ (by decide +kernel)) hA, fun q hq => ?_, fun w hw => ?_⟩
  · exact vk_R.of (A := args) (hts _ ((by decide +kernel : ∀ q ∈ sLs, Cond.stringRef RX3 q.1 q.2 ∈ lw_tbl) q hq)) (hsa q.1 ⟨q.2, hq⟩)
  · have := hts w ((by decide +kernel : ∀ w ∈ ngs, w ∈ lw_tbl) w hw)
    rcases isD_spec (ngs_d w hw) with ⟨x, rfl⟩ | ⟨C, T, rfl⟩ <;> exact va_Nw.of rfl this
