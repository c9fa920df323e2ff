/-! THE CASES OF THE LAW -/
set_option maxHeartbeats 4000000 in
set_option maxRecDepth 100000 in
theorem law_write {p : Program} {l : Launch} {e : Env} {s : State} {m : MethodId} {below : List Frame} {meth : Method} {c : Code} {b L : Nat} {xs : Nat → Int32} {g : GG} {sa a am : Nat → Nat} {o n : Nat} (C0 : LC p l s m c b L xs g sa a am o n) {i : Nat} {st t : CS} {f : Nat → Int64} {H : Heap} {locs : List Loc} {ls : Array Slot} (I0 : LI s b g a am o n i st t f H locs ls) (hi : i + 3 ≤ L) {cells slots : Nat} (hcl : cells + 1 ≤ 617831 ∧ slots + 6 ≤ 7242576) {Q : State → Prop}
    (kk : ∀ (st' t' : CS) (f' : Nat → Int64) (H' : Heap) (locs' : List Loc) (ls' : Array Slot), LI s b g a am o n i st' t' f' H' locs' ls' → W p l e room_1 s m #[Value.ref b] below meth c H' locs' (cells + 1) (slots + 6) Q (F0 m 820 ls' [])) : W p l e room_1 s m #[Value.ref b] below meth c H locs cells slots Q (F0 m 124 ls []) := by
  obtain ⟨hx, hb, hml, hown, hts, hX, hbl, hL, hlt, hC, hT0, hN, hDj⟩ := C0
  obtain ⟨hR, hP, hM, hO, hS, hl⟩ := I0
  have hbA : ¬ A0 s b := Nat.not_le.mpr hbl
  have hfx : CallFix p m c cL_law 9 s #[Value.ref b] wsL_law RL := ⟨hx, hb, hml, hown, hts⟩
  obtain ⟨k, s2, t2, bb, hk3, hR2, ht9, hWP, hMP⟩ := op_write (g := g) (sa := sa) (a := a) (am := am) hlt hR (xs (i + 1)) (xs (i + 2))
  refine lv_aload_n hx hb dL_law_124 rfl (lv_at hl 1 rfl) ?_
  refine lv_aload_n hx hb dL_law_125 rfl (lv_at hl 0 rfl) ?_
  refine lv_iload hx hb dL_law_126 (lv_at hl 4 rfl) ?_
  refine k_ic (x := 1) hx hb dL_law_128 (by decide) ?_
  refine k_iadd hx hb dL_law_129 ?_
  refine k_sld hx hb hX hbl hbA hS (by omega) hL dL_law_130 ?_
  refine lv_aload_n hx hb dL_law_131 rfl (lv_at hl 0 rfl) ?_
  refine lv_iload hx hb dL_law_132 (lv_at hl 4 rfl) ?_
  refine k_ic (x := 2) hx hb dL_law_134 (by decide) ?_
  refine k_iadd hx hb dL_law_135 ?_
  refine k_sld hx hb hX hbl hbA hS (by omega) hL dL_law_136 ?_
  refine lv_aload_n hx hb dL_law_137 rfl (lv_at hl 3 rfl) ?_
  obtain ⟨rm, f2, hrm, hf2, hMet⟩ := hWP (A2 a o n H.size) o H.size f (A2_Ap hDj) (Or.inr (Or.inl rfl)) hDj.2.2.2.1 (fun q hq => Or.inr (Or.inr hq))
  refine kS_W (r := nI k) (st2 := s2) (f2 := f2) (As := [.ref (a 0), .int (xs (i + 1)), .int (xs (i + 2)), .ref o]) (rest := []) hfx hMet (vx_cwSW 4 hts gL_law_L_write rfl hrm.1 hrm.2.1 (by decide +kernel) ⟨by show rm.frames + 1 ≤ 10; omega, by show 8 + (5 + 11) + rm.locals ≤ 348; omega⟩) hC ((T_at hT0 hS).narrow (A2_in hDj hS)) hN hP hO hS (A2_in hDj hS) rfl hl.1 rfl (Nat.le_of_ble_eq_true rfl) dL_law_138 hcl (fun H1 locs1 hP hO hS2 hz1 hk1 => ?_)
  have hM := A2_M hDj hM hk1
  clear hk1 hz1 hS
  refine lv_istore (lv' := [(5, .int (nI k)), (0, .ref b), (1, .ref (a 0)), (2, .ref (am 0)), (3, .ref o), (4, .int (nI i))]) hx hb dL_law_141 hl (by decide) rfl (fun ls hl => ?_)
  have hS := hS2
  refine lv_aload_n hx hb dL_law_143 rfl (lv_at hl 3 rfl) ?_
  refine lv_aload_n hx hb dL_law_144 rfl (lv_at hl 1 rfl) ?_
  refine lv_iload hx hb dL_law_145 (lv_at hl 5 rfl) ?_
  refine k_ic (x := 1) hx hb dL_law_147 (by decide) ?_
  refine k_iadd hx hb dL_law_148 ?_
  refine k_sld hx hb hX hbl hbA hS (by omega) hL dL_law_149 ?_
  refine lv_aload_n hx hb dL_law_150 rfl (lv_at hl 1 rfl) ?_
  refine lv_iload hx hb dL_law_151 (lv_at hl 5 rfl) ?_
  refine k_ic (x := 2) hx hb dL_law_153 (by decide) ?_
  refine k_iadd hx hb dL_law_154 ?_
  refine k_sld hx hb hX hbl hbA hS (by omega) hL dL_law_155 ?_
  obtain ⟨rm2, hrm2, hMet2⟩ := hMP (AM am) (AM_Ap hDj)
  refine kV_i (r := bb) (w2 := wM g am t2) (As := [.int (xs (i + 1)), .int (xs (i + 2))]) (b := am 0) (rest := []) (A1 := AM am) hfx hMet2 (cwV 2 hts gL_law_X4_write rfl hrm2.1 hrm2.2.1 (by decide +kernel) ⟨by show rm2.frames + 1 ≤ 10; omega, by show 8 + (4 + 11) + rm2.locals ≤ 348; omega⟩) (va_recv hC.1 hM (ci := 4) rfl wM_obj) hC hM hS (AM_in hDj) rfl hl.1 rfl (Nat.le_of_ble_eq_true rfl) dL_law_156 ⟨by show cells + 1 + 0 ≤ 617831; omega, by show slots + 6 + 0 ≤ 7242576; omega⟩ (fun H2 locs2 hM hS3 hz2 hk2 => ?_)
  have hP := AM_C hDj hP hk2
  have hO := AM_O hDj hO hk2
  clear hk2 hz2 hS2 hS
  have hS := hS3
  refine lv_istore (lv' := [(6, .int bb), (5, .int (nI k)), (0, .ref b), (1, .ref (a 0)), (2, .ref (am 0)), (3, .ref o), (4, .int (nI i))]) hx hb dL_law_159 hl (by decide) rfl (fun ls hl => ?_)
  refine lv_aload_n hx hb dL_law_161 rfl (lv_at hl 4 rfl) ?_
  refine kV_i (r := nI (t2 9 0 0)) (w2 := wM g am t2) (As := []) (b := am 0) (rest := []) (A1 := AM am) hfx (c_X4_thrown l (n := n) (AM_Ap hDj)) (cwV 0 hts gL_law_X4_thrown rfl rfl rfl (by decide +kernel) ⟨by decide, by decide⟩) (va_recv hC.1 hM (ci := 4) rfl wM_obj) hC hM hS (AM_in hDj) rfl hl.1 rfl (Nat.le_of_ble_eq_true rfl) dL_law_162 ⟨by show cells + 1 + 0 + 0 ≤ 617831; omega, by show slots + 6 + 0 + 0 ≤ 7242576; omega⟩ (fun H3 locs3 hM hS4 hz3 hk3 => ?_)
  have hP := AM_C hDj hP hk3
  have hO := AM_O hDj hO hk3
  rw [ht9]
  refine lv_iload hx hb dL_law_165 (lv_at hl 1 rfl) ?_
  refine k_icmp_eq (tgt := 172) hx hb dL_law_167 (by decide) (by omega) (by omega) (fun _ => ?_) (fun h => absurd rfl h)
  refine lv_iload hx hb dL_law_172 (lv_at hl 1 rfl) ?_
  have fin : W p l e room_1 s m #[Value.ref b] below meth c H3 locs3 (cells + 1) (slots + 6) Q (F0 m 189 ls []) := by
    refine lv_goto (tgt := 820) hx hb dL_law_189 (by decide) ?_
    exact kk s2 t2 f2 H3 locs3 ls ⟨hR2, hP, hM, hO, hS4, lv_sub hl [2, 3, 4, 5, 6] rfl⟩
  refine k_if_ne (tgt := 189) hx hb dL_law_174 (by decide) (by omega) (fun _ => fin) (fun hk0 => ?_)
  refine lv_aload_n hx hb dL_law_177 rfl (lv_at hl 5 rfl) ?_
  refine k_ic (x := 0) hx hb dL_law_178 (by decide) ?_
  refine k_lald0 hx hb hC hO dL_law_179 ?_
  refine lv_iload hx hb dL_law_180 (lv_at hl 0 rfl) ?_
  refine lv_i2l (v := bb.toInt64) hx hb dL_law_182 rfl ?_
  exact k_lcmp0 (tgt := 189) hx hb (hf2 hk0) dL_law_183 dL_law_184 (by decide) fin
set_option maxHeartbeats 4000000 in
set_option maxRecDepth 100000 in
theorem law_read {p : Program} {l : Launch} {e : Env} {s : State} {m : MethodId} {below : List Frame} {meth : Method} {c : Code} {b L : Nat} {xs : Nat → Int32} {g : GG} {sa a am : Nat → Nat} {o n : Nat} (C0 : LC p l s m c b L xs g sa a am o n) {i : Nat} {st t : CS} {f : Nat → Int64} {H : Heap} {locs : List Loc} {ls : Array Slot} (I0 : LI s b g a am o n i st t f H locs ls) (hi : i + 3 ≤ L) {cells slots : Nat} (hcl : cells + 1 ≤ 617831 ∧ slots + 6 ≤ 7242576) {Q : State → Prop}
    (kk : ∀ (st' t' : CS) (f' : Nat → Int64) (H' : Heap) (locs' : List Loc) (ls' : Array Slot), LI s b g a am o n i st' t' f' H' locs' ls' → W p l e room_1 s m #[Value.ref b] below meth c H' locs' (cells + 1) (slots + 6) Q (F0 m 820 ls' [])) : W p l e room_1 s m #[Value.ref b] below meth c H locs cells slots Q (F0 m 192 ls []) := by
  obtain ⟨hx, hb, hml, hown, hts, hX, hbl, hL, hlt, hC, hT0, hN, hDj⟩ := C0
  obtain ⟨hR, hP, hM, hO, hS, hl⟩ := I0
  have hbA : ¬ A0 s b := Nat.not_le.mpr hbl
  have hfx : CallFix p m c cL_law 9 s #[Value.ref b] wsL_law RL := ⟨hx, hb, hml, hown, hts⟩
  obtain ⟨k, s2, t2, bb, hk3, hR2, ht9, hWP, hMP⟩ := op_read (g := g) (sa := sa) (a := a) (am := am) hlt hR (xs (i + 1))
  refine lv_aload_n hx hb dL_law_192 rfl (lv_at hl 1 rfl) ?_
  refine lv_aload_n hx hb dL_law_193 rfl (lv_at hl 0 rfl) ?_
  refine lv_iload hx hb dL_law_194 (lv_at hl 4 rfl) ?_
  refine k_ic (x := 1) hx hb dL_law_196 (by decide) ?_
  refine k_iadd hx hb dL_law_197 ?_
  refine k_sld hx hb hX hbl hbA hS (by omega) hL dL_law_198 ?_
  refine lv_aload_n hx hb dL_law_199 rfl (lv_at hl 3 rfl) ?_
  obtain ⟨rm, f2, hrm, hf2, hMet⟩ := hWP (A2 a o n H.size) o H.size f (A2_Ap hDj) (Or.inr (Or.inl rfl)) hDj.2.2.2.1 (fun q hq => Or.inr (Or.inr hq))
  refine kS_W (r := nI k) (st2 := s2) (f2 := f2) (As := [.ref (a 0), .int (xs (i + 1)), .ref o]) (rest := []) hfx hMet (vx_cwSW 3 hts gL_law_L_read rfl hrm.1 hrm.2.1 (by decide +kernel) ⟨by show rm.frames + 1 ≤ 10; omega, by show 8 + (4 + 11) + rm.locals ≤ 348; omega⟩) hC ((T_at hT0 hS).narrow (A2_in hDj hS)) hN hP hO hS (A2_in hDj hS) rfl hl.1 rfl (Nat.le_of_ble_eq_true rfl) dL_law_200 hcl (fun H1 locs1 hP hO hS2 hz1 hk1 => ?_)
  have hM := A2_M hDj hM hk1
  clear hk1 hz1 hS
  refine lv_istore (lv' := [(5, .int (nI k)), (0, .ref b), (1, .ref (a 0)), (2, .ref (am 0)), (3, .ref o), (4, .int (nI i))]) hx hb dL_law_203 hl (by decide) rfl (fun ls hl => ?_)
  have hS := hS2
  refine lv_aload_n hx hb dL_law_205 rfl (lv_at hl 3 rfl) ?_
  refine lv_aload_n hx hb dL_law_206 rfl (lv_at hl 1 rfl) ?_
  refine lv_iload hx hb dL_law_207 (lv_at hl 5 rfl) ?_
  refine k_ic (x := 1) hx hb dL_law_209 (by decide) ?_
  refine k_iadd hx hb dL_law_210 ?_
  refine k_sld hx hb hX hbl hbA hS (by omega) hL dL_law_211 ?_
  obtain ⟨rm2, hrm2, hMet2⟩ := hMP (AM am) (AM_Ap hDj)
  refine kV_i (r := bb) (w2 := wM g am t2) (As := [.int (xs (i + 1))]) (b := am 0) (rest := []) (A1 := AM am) hfx hMet2 (cwV 1 hts gL_law_X4_read rfl hrm2.1 hrm2.2.1 (by decide +kernel) ⟨by show rm2.frames + 1 ≤ 10; omega, by show 8 + (3 + 11) + rm2.locals ≤ 348; omega⟩) (va_recv hC.1 hM (ci := 4) rfl wM_obj) hC hM hS (AM_in hDj) rfl hl.1 rfl (Nat.le_of_ble_eq_true rfl) dL_law_212 ⟨by show cells + 1 + 0 ≤ 617831; omega, by show slots + 6 + 0 ≤ 7242576; omega⟩ (fun H2 locs2 hM hS3 hz2 hk2 => ?_)
  have hP := AM_C hDj hP hk2
  have hO := AM_O hDj hO hk2
  clear hk2 hz2 hS2 hS
  have hS := hS3
  refine lv_istore (lv' := [(6, .int bb), (5, .int (nI k)), (0, .ref b), (1, .ref (a 0)), (2, .ref (am 0)), (3, .ref o), (4, .int (nI i))]) hx hb dL_law_215 hl (by decide) rfl (fun ls hl => ?_)
  refine lv_aload_n hx hb dL_law_217 rfl (lv_at hl 4 rfl) ?_
  refine kV_i (r := nI (t2 9 0 0)) (w2 := wM g am t2) (As := []) (b := am 0) (rest := []) (A1 := AM am) hfx (c_X4_thrown l (n := n) (AM_Ap hDj)) (cwV 0 hts gL_law_X4_thrown rfl rfl rfl (by decide +kernel) ⟨by decide, by decide⟩) (va_recv hC.1 hM (ci := 4) rfl wM_obj) hC hM hS (AM_in hDj) rfl hl.1 rfl (Nat.le_of_ble_eq_true rfl) dL_law_218 ⟨by show cells + 1 + 0 + 0 ≤ 617831; omega, by show slots + 6 + 0 + 0 ≤ 7242576; omega⟩ (fun H3 locs3 hM hS4 hz3 hk3 => ?_)
  have hP := AM_C hDj hP hk3
  have hO := AM_O hDj hO hk3
  rw [ht9]
  refine lv_iload hx hb dL_law_221 (lv_at hl 1 rfl) ?_
  refine k_icmp_eq (tgt := 228) hx hb dL_law_223 (by decide) (by omega) (by omega) (fun _ => ?_) (fun h => absurd rfl h)
  refine lv_iload hx hb dL_law_228 (lv_at hl 1 rfl) ?_
  have fin : W p l e room_1 s m #[Value.ref b] below meth c H3 locs3 (cells + 1) (slots + 6) Q (F0 m 245 ls []) := by
    refine lv_goto (tgt := 820) hx hb dL_law_245 (by decide) ?_
    exact kk s2 t2 f2 H3 locs3 ls ⟨hR2, hP, hM, hO, hS4, lv_sub hl [2, 3, 4, 5, 6] rfl⟩
  refine k_if_ne (tgt := 245) hx hb dL_law_230 (by decide) (by omega) (fun _ => fin) (fun hk0 => ?_)
  refine lv_aload_n hx hb dL_law_233 rfl (lv_at hl 5 rfl) ?_
  refine k_ic (x := 0) hx hb dL_law_234 (by decide) ?_
  refine k_lald0 hx hb hC hO dL_law_235 ?_
  refine lv_iload hx hb dL_law_236 (lv_at hl 0 rfl) ?_
  refine lv_i2l (v := bb.toInt64) hx hb dL_law_238 rfl ?_
  exact k_lcmp0 (tgt := 245) hx hb (hf2 hk0) dL_law_239 dL_law_240 (by decide) fin
set_option maxHeartbeats 4000000 in
set_option maxRecDepth 100000 in
theorem law_deliver {p : Program} {l : Launch} {e : Env} {s : State} {m : MethodId} {below : List Frame} {meth : Method} {c : Code} {b L : Nat} {xs : Nat → Int32} {g : GG} {sa a am : Nat → Nat} {o n : Nat} (C0 : LC p l s m c b L xs g sa a am o n) {i : Nat} {st t : CS} {f : Nat → Int64} {H : Heap} {locs : List Loc} {ls : Array Slot} (I0 : LI s b g a am o n i st t f H locs ls) (hi : i + 3 ≤ L) {cells slots : Nat} (hcl : cells + 1 ≤ 617831 ∧ slots + 6 ≤ 7242576) {Q : State → Prop}
    (kk : ∀ (st' t' : CS) (f' : Nat → Int64) (H' : Heap) (locs' : List Loc) (ls' : Array Slot), LI s b g a am o n i st' t' f' H' locs' ls' → W p l e room_1 s m #[Value.ref b] below meth c H' locs' (cells + 1) (slots + 6) Q (F0 m 820 ls' [])) : W p l e room_1 s m #[Value.ref b] below meth c H locs cells slots Q (F0 m 248 ls []) := by
  obtain ⟨hx, hb, hml, hown, hts, hX, hbl, hL, hlt, hC, hT0, hN, hDj⟩ := C0
  obtain ⟨hR, hP, hM, hO, hS, hl⟩ := I0
  have hbA : ¬ A0 s b := Nat.not_le.mpr hbl
  have hfx : CallFix p m c cL_law 9 s #[Value.ref b] wsL_law RL := ⟨hx, hb, hml, hown, hts⟩
  obtain ⟨k, s2, t2, bb, hk3, hR2, ht9, hWP, hMP⟩ := op_deliver (g := g) (sa := sa) (a := a) (am := am) hlt hR (xs (i + 1))
  refine lv_aload_n hx hb dL_law_248 rfl (lv_at hl 1 rfl) ?_
  refine lv_aload_n hx hb dL_law_249 rfl (lv_at hl 0 rfl) ?_
  refine lv_iload hx hb dL_law_250 (lv_at hl 4 rfl) ?_
  refine k_ic (x := 1) hx hb dL_law_252 (by decide) ?_
  refine k_iadd hx hb dL_law_253 ?_
  refine k_sld hx hb hX hbl hbA hS (by omega) hL dL_law_254 ?_
  refine lv_aload_n hx hb dL_law_255 rfl (lv_at hl 3 rfl) ?_
  obtain ⟨rm, f2, hrm, hf2, hMet⟩ := hWP (A2 a o n H.size) o H.size f (A2_Ap hDj) (Or.inr (Or.inl rfl)) hDj.2.2.2.1 (fun q hq => Or.inr (Or.inr hq))
  refine kS_W (r := nI k) (st2 := s2) (f2 := f2) (As := [.ref (a 0), .int (xs (i + 1)), .ref o]) (rest := []) hfx hMet (vx_cwSW 3 hts gL_law_L_deliver rfl hrm.1 hrm.2.1 (by decide +kernel) ⟨by show rm.frames + 1 ≤ 10; omega, by show 8 + (4 + 11) + rm.locals ≤ 348; omega⟩) hC ((T_at hT0 hS).narrow (A2_in hDj hS)) hN hP hO hS (A2_in hDj hS) rfl hl.1 rfl (Nat.le_of_ble_eq_true rfl) dL_law_256 hcl (fun H1 locs1 hP hO hS2 hz1 hk1 => ?_)
  have hM := A2_M hDj hM hk1
  clear hk1 hz1 hS
  refine lv_istore (lv' := [(5, .int (nI k)), (0, .ref b), (1, .ref (a 0)), (2, .ref (am 0)), (3, .ref o), (4, .int (nI i))]) hx hb dL_law_259 hl (by decide) rfl (fun ls hl => ?_)
  have hS := hS2
  refine lv_aload_n hx hb dL_law_261 rfl (lv_at hl 3 rfl) ?_
  refine lv_aload_n hx hb dL_law_262 rfl (lv_at hl 1 rfl) ?_
  refine lv_iload hx hb dL_law_263 (lv_at hl 5 rfl) ?_
  refine k_ic (x := 1) hx hb dL_law_265 (by decide) ?_
  refine k_iadd hx hb dL_law_266 ?_
  refine k_sld hx hb hX hbl hbA hS (by omega) hL dL_law_267 ?_
  obtain ⟨rm2, hrm2, hMet2⟩ := hMP (AM am) (AM_Ap hDj)
  refine kV_i (r := bb) (w2 := wM g am t2) (As := [.int (xs (i + 1))]) (b := am 0) (rest := []) (A1 := AM am) hfx hMet2 (cwV 1 hts gL_law_X4_deliver rfl hrm2.1 hrm2.2.1 (by decide +kernel) ⟨by show rm2.frames + 1 ≤ 10; omega, by show 8 + (4 + 11) + rm2.locals ≤ 348; omega⟩) (va_recv hC.1 hM (ci := 4) rfl wM_obj) hC hM hS (AM_in hDj) rfl hl.1 rfl (Nat.le_of_ble_eq_true rfl) dL_law_268 ⟨by show cells + 1 + 0 ≤ 617831; omega, by show slots + 6 + 0 ≤ 7242576; omega⟩ (fun H2 locs2 hM hS3 hz2 hk2 => ?_)
  have hP := AM_C hDj hP hk2
  have hO := AM_O hDj hO hk2
  clear hk2 hz2 hS2 hS
  have hS := hS3
  refine lv_istore (lv' := [(6, .int bb), (5, .int (nI k)), (0, .ref b), (1, .ref (a 0)), (2, .ref (am 0)), (3, .ref o), (4, .int (nI i))]) hx hb dL_law_271 hl (by decide) rfl (fun ls hl => ?_)
  refine lv_aload_n hx hb dL_law_273 rfl (lv_at hl 4 rfl) ?_
  refine kV_i (r := nI (t2 9 0 0)) (w2 := wM g am t2) (As := []) (b := am 0) (rest := []) (A1 := AM am) hfx (c_X4_thrown l (n := n) (AM_Ap hDj)) (cwV 0 hts gL_law_X4_thrown rfl rfl rfl (by decide +kernel) ⟨by decide, by decide⟩) (va_recv hC.1 hM (ci := 4) rfl wM_obj) hC hM hS (AM_in hDj) rfl hl.1 rfl (Nat.le_of_ble_eq_true rfl) dL_law_274 ⟨by show cells + 1 + 0 + 0 ≤ 617831; omega, by show slots + 6 + 0 + 0 ≤ 7242576; omega⟩ (fun H3 locs3 hM hS4 hz3 hk3 => ?_)
  have hP := AM_C hDj hP hk3
  have hO := AM_O hDj hO hk3
  rw [ht9]
  refine lv_iload hx hb dL_law_277 (lv_at hl 1 rfl) ?_
  refine k_icmp_eq (tgt := 284) hx hb dL_law_279 (by decide) (by omega) (by omega) (fun _ => ?_) (fun h => absurd rfl h)
  refine lv_iload hx hb dL_law_284 (lv_at hl 1 rfl) ?_
  have fin : W p l e room_1 s m #[Value.ref b] below meth c H3 locs3 (cells + 1) (slots + 6) Q (F0 m 301 ls []) := by
    refine lv_goto (tgt := 820) hx hb dL_law_301 (by decide) ?_
    exact kk s2 t2 f2 H3 locs3 ls ⟨hR2, hP, hM, hO, hS4, lv_sub hl [2, 3, 4, 5, 6] rfl⟩
  refine k_if_ne (tgt := 301) hx hb dL_law_286 (by decide) (by omega) (fun _ => fin) (fun hk0 => ?_)
  refine lv_aload_n hx hb dL_law_289 rfl (lv_at hl 5 rfl) ?_
  refine k_ic (x := 0) hx hb dL_law_290 (by decide) ?_
  refine k_lald0 hx hb hC hO dL_law_291 ?_
  refine lv_iload hx hb dL_law_292 (lv_at hl 0 rfl) ?_
  refine lv_i2l (v := bb.toInt64) hx hb dL_law_294 rfl ?_
  exact k_lcmp0 (tgt := 301) hx hb (hf2 hk0) dL_law_295 dL_law_296 (by decide) fin
set_option maxHeartbeats 4000000 in
set_option maxRecDepth 100000 in
theorem law_acknowledge {p : Program} {l : Launch} {e : Env} {s : State} {m : MethodId} {below : List Frame} {meth : Method} {c : Code} {b L : Nat} {xs : Nat → Int32} {g : GG} {sa a am : Nat → Nat} {o n : Nat} (C0 : LC p l s m c b L xs g sa a am o n) {i : Nat} {st t : CS} {f : Nat → Int64} {H : Heap} {locs : List Loc} {ls : Array Slot} (I0 : LI s b g a am o n i st t f H locs ls) (hi : i + 3 ≤ L) {cells slots : Nat} (hcl : cells + 1 ≤ 617831 ∧ slots + 6 ≤ 7242576) {Q : State → Prop}
    (kk : ∀ (st' t' : CS) (f' : Nat → Int64) (H' : Heap) (locs' : List Loc) (ls' : Array Slot), LI s b g a am o n i st' t' f' H' locs' ls' → W p l e room_1 s m #[Value.ref b] below meth c H' locs' (cells + 1) (slots + 6) Q (F0 m 820 ls' [])) : W p l e room_1 s m #[Value.ref b] below meth c H locs cells slots Q (F0 m 304 ls []) := by
  obtain ⟨hx, hb, hml, hown, hts, hX, hbl, hL, hlt, hC, hT0, hN, hDj⟩ := C0
  obtain ⟨hR, hP, hM, hO, hS, hl⟩ := I0
  have hbA : ¬ A0 s b := Nat.not_le.mpr hbl
  have hfx : CallFix p m c cL_law 9 s #[Value.ref b] wsL_law RL := ⟨hx, hb, hml, hown, hts⟩
  obtain ⟨k, s2, t2, bb, hk3, hR2, ht9, hWP, hMP⟩ := op_acknowledge (g := g) (sa := sa) (a := a) (am := am) hlt hR (xs (i + 1))
  refine lv_aload_n hx hb dL_law_304 rfl (lv_at hl 1 rfl) ?_
  refine lv_aload_n hx hb dL_law_305 rfl (lv_at hl 0 rfl) ?_
  refine lv_iload hx hb dL_law_306 (lv_at hl 4 rfl) ?_
  refine k_ic (x := 1) hx hb dL_law_308 (by decide) ?_
  refine k_iadd hx hb dL_law_309 ?_
  refine k_sld hx hb hX hbl hbA hS (by omega) hL dL_law_310 ?_
  refine lv_aload_n hx hb dL_law_311 rfl (lv_at hl 3 rfl) ?_
  obtain ⟨rm, f2, hrm, hf2, hMet⟩ := hWP (A2 a o n H.size) o H.size f (A2_Ap hDj) (Or.inr (Or.inl rfl)) hDj.2.2.2.1 (fun q hq => Or.inr (Or.inr hq))
  refine kS_W (r := nI k) (st2 := s2) (f2 := f2) (As := [.ref (a 0), .int (xs (i + 1)), .ref o]) (rest := []) hfx hMet (vx_cwSW 3 hts gL_law_L_acknowledge rfl hrm.1 hrm.2.1 (by decide +kernel) ⟨by show rm.frames + 1 ≤ 10; omega, by show 8 + (4 + 11) + rm.locals ≤ 348; omega⟩) hC ((T_at hT0 hS).narrow (A2_in hDj hS)) hN hP hO hS (A2_in hDj hS) rfl hl.1 rfl (Nat.le_of_ble_eq_true rfl) dL_law_312 hcl (fun H1 locs1 hP hO hS2 hz1 hk1 => ?_)
  have hM := A2_M hDj hM hk1
  clear hk1 hz1 hS
  refine lv_istore (lv' := [(5, .int (nI k)), (0, .ref b), (1, .ref (a 0)), (2, .ref (am 0)), (3, .ref o), (4, .int (nI i))]) hx hb dL_law_315 hl (by decide) rfl (fun ls hl => ?_)
  have hS := hS2
  refine lv_aload_n hx hb dL_law_317 rfl (lv_at hl 3 rfl) ?_
  refine lv_aload_n hx hb dL_law_318 rfl (lv_at hl 1 rfl) ?_
  refine lv_iload hx hb dL_law_319 (lv_at hl 5 rfl) ?_
  refine k_ic (x := 1) hx hb dL_law_321 (by decide) ?_
  refine k_iadd hx hb dL_law_322 ?_
  refine k_sld hx hb hX hbl hbA hS (by omega) hL dL_law_323 ?_
  obtain ⟨rm2, hrm2, hMet2⟩ := hMP (AM am) (AM_Ap hDj)
  refine kV_i (r := bb) (w2 := wM g am t2) (As := [.int (xs (i + 1))]) (b := am 0) (rest := []) (A1 := AM am) hfx hMet2 (cwV 1 hts gL_law_X4_acknowledge rfl hrm2.1 hrm2.2.1 (by decide +kernel) ⟨by show rm2.frames + 1 ≤ 10; omega, by show 8 + (2 + 11) + rm2.locals ≤ 348; omega⟩) (va_recv hC.1 hM (ci := 4) rfl wM_obj) hC hM hS (AM_in hDj) rfl hl.1 rfl (Nat.le_of_ble_eq_true rfl) dL_law_324 ⟨by show cells + 1 + 0 ≤ 617831; omega, by show slots + 6 + 0 ≤ 7242576; omega⟩ (fun H2 locs2 hM hS3 hz2 hk2 => ?_)
  have hP := AM_C hDj hP hk2
  have hO := AM_O hDj hO hk2
  clear hk2 hz2 hS2 hS
  have hS := hS3
  refine lv_istore (lv' := [(6, .int bb), (5, .int (nI k)), (0, .ref b), (1, .ref (a 0)), (2, .ref (am 0)), (3, .ref o), (4, .int (nI i))]) hx hb dL_law_327 hl (by decide) rfl (fun ls hl => ?_)
  refine lv_aload_n hx hb dL_law_329 rfl (lv_at hl 4 rfl) ?_
  refine kV_i (r := nI (t2 9 0 0)) (w2 := wM g am t2) (As := []) (b := am 0) (rest := []) (A1 := AM am) hfx (c_X4_thrown l (n := n) (AM_Ap hDj)) (cwV 0 hts gL_law_X4_thrown rfl rfl rfl (by decide +kernel) ⟨by decide, by decide⟩) (va_recv hC.1 hM (ci := 4) rfl wM_obj) hC hM hS (AM_in hDj) rfl hl.1 rfl (Nat.le_of_ble_eq_true rfl) dL_law_330 ⟨by show cells + 1 + 0 + 0 ≤ 617831; omega, by show slots + 6 + 0 + 0 ≤ 7242576; omega⟩ (fun H3 locs3 hM hS4 hz3 hk3 => ?_)
  have hP := AM_C hDj hP hk3
  have hO := AM_O hDj hO hk3
  rw [ht9]
  refine lv_iload hx hb dL_law_333 (lv_at hl 1 rfl) ?_
  refine k_icmp_eq (tgt := 340) hx hb dL_law_335 (by decide) (by omega) (by omega) (fun _ => ?_) (fun h => absurd rfl h)
  refine lv_iload hx hb dL_law_340 (lv_at hl 1 rfl) ?_
  have fin : W p l e room_1 s m #[Value.ref b] below meth c H3 locs3 (cells + 1) (slots + 6) Q (F0 m 357 ls []) := by
    refine lv_goto (tgt := 820) hx hb dL_law_357 (by decide) ?_
    exact kk s2 t2 f2 H3 locs3 ls ⟨hR2, hP, hM, hO, hS4, lv_sub hl [2, 3, 4, 5, 6] rfl⟩
  refine k_if_ne (tgt := 357) hx hb dL_law_342 (by decide) (by omega) (fun _ => fin) (fun hk0 => ?_)
  refine lv_aload_n hx hb dL_law_345 rfl (lv_at hl 5 rfl) ?_
  refine k_ic (x := 0) hx hb dL_law_346 (by decide) ?_
  refine k_lald0 hx hb hC hO dL_law_347 ?_
  refine lv_iload hx hb dL_law_348 (lv_at hl 0 rfl) ?_
  refine lv_i2l (v := bb.toInt64) hx hb dL_law_350 rfl ?_
  exact k_lcmp0 (tgt := 357) hx hb (hf2 hk0) dL_law_351 dL_law_352 (by decide) fin
set_option maxHeartbeats 4000000 in
set_option maxRecDepth 100000 in
theorem law_fail {p : Program} {l : Launch} {e : Env} {s : State} {m : MethodId} {below : List Frame} {meth : Method} {c : Code} {b L : Nat} {xs : Nat → Int32} {g : GG} {sa a am : Nat → Nat} {o n : Nat} (C0 : LC p l s m c b L xs g sa a am o n) {i : Nat} {st t : CS} {f : Nat → Int64} {H : Heap} {locs : List Loc} {ls : Array Slot} (I0 : LI s b g a am o n i st t f H locs ls) (hi : i + 3 ≤ L) {cells slots : Nat} (hcl : cells + 1 ≤ 617831 ∧ slots + 6 ≤ 7242576) {Q : State → Prop}
    (kk : ∀ (st' t' : CS) (f' : Nat → Int64) (H' : Heap) (locs' : List Loc) (ls' : Array Slot), LI s b g a am o n i st' t' f' H' locs' ls' → W p l e room_1 s m #[Value.ref b] below meth c H' locs' (cells + 1) (slots + 6) Q (F0 m 820 ls' [])) : W p l e room_1 s m #[Value.ref b] below meth c H locs cells slots Q (F0 m 360 ls []) := by
  obtain ⟨hx, hb, hml, hown, hts, hX, hbl, hL, hlt, hC, hT0, hN, hDj⟩ := C0
  obtain ⟨hR, hP, hM, hO, hS, hl⟩ := I0
  have hbA : ¬ A0 s b := Nat.not_le.mpr hbl
  have hfx : CallFix p m c cL_law 9 s #[Value.ref b] wsL_law RL := ⟨hx, hb, hml, hown, hts⟩
  obtain ⟨k, s2, t2, bb, hk3, hR2, ht9, hWP, hMP⟩ := op_fail (g := g) (sa := sa) (a := a) (am := am) hlt hR (xs (i + 1))
  refine lv_aload_n hx hb dL_law_360 rfl (lv_at hl 1 rfl) ?_
  refine lv_aload_n hx hb dL_law_361 rfl (lv_at hl 0 rfl) ?_
  refine lv_iload hx hb dL_law_362 (lv_at hl 4 rfl) ?_
  refine k_ic (x := 1) hx hb dL_law_364 (by decide) ?_
  refine k_iadd hx hb dL_law_365 ?_
  refine k_sld hx hb hX hbl hbA hS (by omega) hL dL_law_366 ?_
  refine lv_aload_n hx hb dL_law_367 rfl (lv_at hl 3 rfl) ?_
  obtain ⟨rm, f2, hrm, hf2, hMet⟩ := hWP (A2 a o n H.size) o H.size f (A2_Ap hDj) (Or.inr (Or.inl rfl)) hDj.2.2.2.1 (fun q hq => Or.inr (Or.inr hq))
  refine kS_W (r := nI k) (st2 := s2) (f2 := f2) (As := [.ref (a 0), .int (xs (i + 1)), .ref o]) (rest := []) hfx hMet (vx_cwSW 3 hts gL_law_L_fail rfl hrm.1 hrm.2.1 (by decide +kernel) ⟨by show rm.frames + 1 ≤ 10; omega, by show 8 + (4 + 11) + rm.locals ≤ 348; omega⟩) hC ((T_at hT0 hS).narrow (A2_in hDj hS)) hN hP hO hS (A2_in hDj hS) rfl hl.1 rfl (Nat.le_of_ble_eq_true rfl) dL_law_368 hcl (fun H1 locs1 hP hO hS2 hz1 hk1 => ?_)
  have hM := A2_M hDj hM hk1
  clear hk1 hz1 hS
  refine lv_istore (lv' := [(5, .int (nI k)), (0, .ref b), (1, .ref (a 0)), (2, .ref (am 0)), (3, .ref o), (4, .int (nI i))]) hx hb dL_law_371 hl (by decide) rfl (fun ls hl => ?_)
  have hS := hS2
  refine lv_aload_n hx hb dL_law_373 rfl (lv_at hl 3 rfl) ?_
  refine lv_aload_n hx hb dL_law_374 rfl (lv_at hl 1 rfl) ?_
  refine lv_iload hx hb dL_law_375 (lv_at hl 5 rfl) ?_
  refine k_ic (x := 1) hx hb dL_law_377 (by decide) ?_
  refine k_iadd hx hb dL_law_378 ?_
  refine k_sld hx hb hX hbl hbA hS (by omega) hL dL_law_379 ?_
  obtain ⟨rm2, hrm2, hMet2⟩ := hMP (AM am) (AM_Ap hDj)
  refine kV_i (r := bb) (w2 := wM g am t2) (As := [.int (xs (i + 1))]) (b := am 0) (rest := []) (A1 := AM am) hfx hMet2 (cwV 1 hts gL_law_X4_fail rfl hrm2.1 hrm2.2.1 (by decide +kernel) ⟨by show rm2.frames + 1 ≤ 10; omega, by show 8 + (4 + 11) + rm2.locals ≤ 348; omega⟩) (va_recv hC.1 hM (ci := 4) rfl wM_obj) hC hM hS (AM_in hDj) rfl hl.1 rfl (Nat.le_of_ble_eq_true rfl) dL_law_380 ⟨by show cells + 1 + 0 ≤ 617831; omega, by show slots + 6 + 0 ≤ 7242576; omega⟩ (fun H2 locs2 hM hS3 hz2 hk2 => ?_)
  have hP := AM_C hDj hP hk2
  have hO := AM_O hDj hO hk2
  clear hk2 hz2 hS2 hS
  have hS := hS3
  refine lv_istore (lv' := [(6, .int bb), (5, .int (nI k)), (0, .ref b), (1, .ref (a 0)), (2, .ref (am 0)), (3, .ref o), (4, .int (nI i))]) hx hb dL_law_383 hl (by decide) rfl (fun ls hl => ?_)
  refine lv_aload_n hx hb dL_law_385 rfl (lv_at hl 4 rfl) ?_
  refine kV_i (r := nI (t2 9 0 0)) (w2 := wM g am t2) (As := []) (b := am 0) (rest := []) (A1 := AM am) hfx (c_X4_thrown l (n := n) (AM_Ap hDj)) (cwV 0 hts gL_law_X4_thrown rfl rfl rfl (by decide +kernel) ⟨by decide, by decide⟩) (va_recv hC.1 hM (ci := 4) rfl wM_obj) hC hM hS (AM_in hDj) rfl hl.1 rfl (Nat.le_of_ble_eq_true rfl) dL_law_386 ⟨by show cells + 1 + 0 + 0 ≤ 617831; omega, by show slots + 6 + 0 + 0 ≤ 7242576; omega⟩ (fun H3 locs3 hM hS4 hz3 hk3 => ?_)
  have hP := AM_C hDj hP hk3
  have hO := AM_O hDj hO hk3
  rw [ht9]
  refine lv_iload hx hb dL_law_389 (lv_at hl 1 rfl) ?_
  refine k_icmp_eq (tgt := 396) hx hb dL_law_391 (by decide) (by omega) (by omega) (fun _ => ?_) (fun h => absurd rfl h)
  refine lv_iload hx hb dL_law_396 (lv_at hl 1 rfl) ?_
  have fin : W p l e room_1 s m #[Value.ref b] below meth c H3 locs3 (cells + 1) (slots + 6) Q (F0 m 420 ls []) := by
    refine lv_goto (tgt := 820) hx hb dL_law_420 (by decide) ?_
    exact kk s2 t2 f2 H3 locs3 ls ⟨hR2, hP, hM, hO, hS4, lv_sub hl [2, 3, 4, 5, 6] rfl⟩
  refine k_if_ne (tgt := 420) hx hb dL_law_398 (by decide) (by omega) (fun _ => fin) (fun hk0 => ?_)
  refine lv_aload_n hx hb dL_law_401 rfl (lv_at hl 5 rfl) ?_
  refine k_ic (x := 0) hx hb dL_law_402 (by decide) ?_
  refine k_lald0 hx hb hC hO dL_law_403 ?_
  refine lv_iload hx hb dL_law_404 (lv_at hl 0 rfl) ?_
  have hv := hf2 hk0
  refine lv_if_eq (tgt := 413) hx hb dL_law_406 (by decide) (fun h0 => ?_) (fun h0 => ?_)
  · refine lv_lconst (v := 0) hx hb dL_law_413 (by decide) ?_
    exact k_lcmp0 (tgt := 420) hx hb (by rw [hv]; exact if_pos h0) dL_law_414 dL_law_415 (by decide) fin
  · refine lv_lconst (v := 1) hx hb dL_law_409 (by decide) ?_
    refine lv_goto (tgt := 414) hx hb dL_law_410 (by decide) ?_
    exact k_lcmp0 (tgt := 420) hx hb (by rw [hv]; exact if_neg h0) dL_law_414 dL_law_415 (by decide) fin
set_option maxHeartbeats 4000000 in
set_option maxRecDepth 100000 in
theorem law_resync {p : Program} {l : Launch} {e : Env} {s : State} {m : MethodId} {below : List Frame} {meth : Method} {c : Code} {b L : Nat} {xs : Nat → Int32} {g : GG} {sa a am : Nat → Nat} {o n : Nat} (C0 : LC p l s m c b L xs g sa a am o n) {i : Nat} {st t : CS} {f : Nat → Int64} {H : Heap} {locs : List Loc} {ls : Array Slot} (I0 : LI s b g a am o n i st t f H locs ls) (hi : i + 3 ≤ L) {cells slots : Nat} (hcl : cells + 1 ≤ 617831 ∧ slots + 6 ≤ 7242576) {Q : State → Prop}
    (kk : ∀ (st' t' : CS) (f' : Nat → Int64) (H' : Heap) (locs' : List Loc) (ls' : Array Slot), LI s b g a am o n i st' t' f' H' locs' ls' → W p l e room_1 s m #[Value.ref b] below meth c H' locs' (cells + 1) (slots + 6) Q (F0 m 820 ls' [])) : W p l e room_1 s m #[Value.ref b] below meth c H locs cells slots Q (F0 m 436 ls []) := by
  obtain ⟨hx, hb, hml, hown, hts, hX, hbl, hL, hlt, hC, hT0, hN, hDj⟩ := C0
  obtain ⟨hR, hP, hM, hO, hS, hl⟩ := I0
  have hbA : ¬ A0 s b := Nat.not_le.mpr hbl
  have hfx : CallFix p m c cL_law 9 s #[Value.ref b] wsL_law RL := ⟨hx, hb, hml, hown, hts⟩
  obtain ⟨k, s2, t2, bb, hk3, hR2, ht9, hWP, hMP⟩ := op_resync (g := g) (sa := sa) (a := a) (am := am) hlt hR (xs (i + 1))
  refine lv_aload_n hx hb dL_law_436 rfl (lv_at hl 1 rfl) ?_
  refine lv_aload_n hx hb dL_law_437 rfl (lv_at hl 0 rfl) ?_
  refine lv_iload hx hb dL_law_438 (lv_at hl 4 rfl) ?_
  refine k_ic (x := 1) hx hb dL_law_440 (by decide) ?_
  refine k_iadd hx hb dL_law_441 ?_
  refine k_sld hx hb hX hbl hbA hS (by omega) hL dL_law_442 ?_
  refine lv_aload_n hx hb dL_law_443 rfl (lv_at hl 3 rfl) ?_
  obtain ⟨rm, f2, hrm, hf2, hMet⟩ := hWP (A2 a o n H.size) o H.size f (A2_Ap hDj) (Or.inr (Or.inl rfl)) hDj.2.2.2.1 (fun q hq => Or.inr (Or.inr hq))
  refine kS_W (r := nI k) (st2 := s2) (f2 := f2) (As := [.ref (a 0), .int (xs (i + 1)), .ref o]) (rest := []) hfx hMet (vx_cwSW 3 hts gL_law_L_resync rfl hrm.1 hrm.2.1 (by decide +kernel) ⟨by show rm.frames + 1 ≤ 10; omega, by show 8 + (4 + 11) + rm.locals ≤ 348; omega⟩) hC ((T_at hT0 hS).narrow (A2_in hDj hS)) hN hP hO hS (A2_in hDj hS) rfl hl.1 rfl (Nat.le_of_ble_eq_true rfl) dL_law_444 hcl (fun H1 locs1 hP hO hS2 hz1 hk1 => ?_)
  have hM := A2_M hDj hM hk1
  clear hk1 hz1 hS
  refine lv_istore (lv' := [(5, .int (nI k)), (0, .ref b), (1, .ref (a 0)), (2, .ref (am 0)), (3, .ref o), (4, .int (nI i))]) hx hb dL_law_447 hl (by decide) rfl (fun ls hl => ?_)
  have hS := hS2
  refine lv_aload_n hx hb dL_law_449 rfl (lv_at hl 3 rfl) ?_
  refine lv_aload_n hx hb dL_law_450 rfl (lv_at hl 1 rfl) ?_
  refine lv_iload hx hb dL_law_451 (lv_at hl 5 rfl) ?_
  refine k_ic (x := 1) hx hb dL_law_453 (by decide) ?_
  refine k_iadd hx hb dL_law_454 ?_
  refine k_sld hx hb hX hbl hbA hS (by omega) hL dL_law_455 ?_
  obtain ⟨rm2, hrm2, hMet2⟩ := hMP (AM am) (AM_Ap hDj)
  refine kV_i (r := bb) (w2 := wM g am t2) (As := [.int (xs (i + 1))]) (b := am 0) (rest := []) (A1 := AM am) hfx hMet2 (cwV 1 hts gL_law_X4_resync rfl hrm2.1 hrm2.2.1 (by decide +kernel) ⟨by show rm2.frames + 1 ≤ 10; omega, by show 8 + (3 + 11) + rm2.locals ≤ 348; omega⟩) (va_recv hC.1 hM (ci := 4) rfl wM_obj) hC hM hS (AM_in hDj) rfl hl.1 rfl (Nat.le_of_ble_eq_true rfl) dL_law_456 ⟨by show cells + 1 + 0 ≤ 617831; omega, by show slots + 6 + 0 ≤ 7242576; omega⟩ (fun H2 locs2 hM hS3 hz2 hk2 => ?_)
  have hP := AM_C hDj hP hk2
  have hO := AM_O hDj hO hk2
  clear hk2 hz2 hS2 hS
  have hS := hS3
  refine lv_istore (lv' := [(6, .int bb), (5, .int (nI k)), (0, .ref b), (1, .ref (a 0)), (2, .ref (am 0)), (3, .ref o), (4, .int (nI i))]) hx hb dL_law_459 hl (by decide) rfl (fun ls hl => ?_)
  refine lv_aload_n hx hb dL_law_461 rfl (lv_at hl 4 rfl) ?_
  refine kV_i (r := nI (t2 9 0 0)) (w2 := wM g am t2) (As := []) (b := am 0) (rest := []) (A1 := AM am) hfx (c_X4_thrown l (n := n) (AM_Ap hDj)) (cwV 0 hts gL_law_X4_thrown rfl rfl rfl (by decide +kernel) ⟨by decide, by decide⟩) (va_recv hC.1 hM (ci := 4) rfl wM_obj) hC hM hS (AM_in hDj) rfl hl.1 rfl (Nat.le_of_ble_eq_true rfl) dL_law_462 ⟨by show cells + 1 + 0 + 0 ≤ 617831; omega, by show slots + 6 + 0 + 0 ≤ 7242576; omega⟩ (fun H3 locs3 hM hS4 hz3 hk3 => ?_)
  have hP := AM_C hDj hP hk3
  have hO := AM_O hDj hO hk3
  rw [ht9]
  refine lv_iload hx hb dL_law_465 (lv_at hl 1 rfl) ?_
  refine k_icmp_eq (tgt := 472) hx hb dL_law_467 (by decide) (by omega) (by omega) (fun _ => ?_) (fun h => absurd rfl h)
  refine lv_iload hx hb dL_law_472 (lv_at hl 1 rfl) ?_
  have fin : W p l e room_1 s m #[Value.ref b] below meth c H3 locs3 (cells + 1) (slots + 6) Q (F0 m 489 ls []) := by
    refine lv_goto (tgt := 820) hx hb dL_law_489 (by decide) ?_
    exact kk s2 t2 f2 H3 locs3 ls ⟨hR2, hP, hM, hO, hS4, lv_sub hl [2, 3, 4, 5, 6] rfl⟩
  refine k_if_ne (tgt := 489) hx hb dL_law_474 (by decide) (by omega) (fun _ => fin) (fun hk0 => ?_)
  refine lv_aload_n hx hb dL_law_477 rfl (lv_at hl 5 rfl) ?_
  refine k_ic (x := 0) hx hb dL_law_478 (by decide) ?_
  refine k_lald0 hx hb hC hO dL_law_479 ?_
  refine lv_iload hx hb dL_law_480 (lv_at hl 0 rfl) ?_
  refine lv_i2l (v := bb.toInt64) hx hb dL_law_482 rfl ?_
  exact k_lcmp0 (tgt := 489) hx hb (hf2 hk0) dL_law_483 dL_law_484 (by decide) fin
set_option maxHeartbeats 4000000 in
set_option maxRecDepth 100000 in
theorem law_valueAt {p : Program} {l : Launch} {e : Env} {s : State} {m : MethodId} {below : List Frame} {meth : Method} {c : Code} {b L : Nat} {xs : Nat → Int32} {g : GG} {sa a am : Nat → Nat} {o n : Nat} (C0 : LC p l s m c b L xs g sa a am o n) {i : Nat} {st t : CS} {f : Nat → Int64} {H : Heap} {locs : List Loc} {ls : Array Slot} (I0 : LI s b g a am o n i st t f H locs ls) (hi : i + 3 ≤ L) {cells slots : Nat} (hcl : cells + 1 ≤ 617831 ∧ slots + 6 ≤ 7242576) {Q : State → Prop}
    (kk : ∀ (st' t' : CS) (f' : Nat → Int64) (H' : Heap) (locs' : List Loc) (ls' : Array Slot), LI s b g a am o n i st' t' f' H' locs' ls' → W p l e room_1 s m #[Value.ref b] below meth c H' locs' (cells + 1) (slots + 6) Q (F0 m 820 ls' [])) : W p l e room_1 s m #[Value.ref b] below meth c H locs cells slots Q (F0 m 543 ls []) := by
  obtain ⟨hx, hb, hml, hown, hts, hX, hbl, hL, hlt, hC, hT0, hN, hDj⟩ := C0
  obtain ⟨hR, hP, hM, hO, hS, hl⟩ := I0
  have hbA : ¬ A0 s b := Nat.not_le.mpr hbl
  have hfx : CallFix p m c cL_law 9 s #[Value.ref b] wsL_law RL := ⟨hx, hb, hml, hown, hts⟩
  obtain ⟨k, s2, t2, bb, hk3, hR2, ht9, hWP, hMP⟩ := op_valueAt (g := g) (sa := sa) (a := a) (am := am) hlt hR (xs (i + 1)) (xs (i + 2))
  refine lv_aload_n hx hb dL_law_543 rfl (lv_at hl 1 rfl) ?_
  refine lv_aload_n hx hb dL_law_544 rfl (lv_at hl 0 rfl) ?_
  refine lv_iload hx hb dL_law_545 (lv_at hl 4 rfl) ?_
  refine k_ic (x := 1) hx hb dL_law_547 (by decide) ?_
  refine k_iadd hx hb dL_law_548 ?_
  refine k_sld hx hb hX hbl hbA hS (by omega) hL dL_law_549 ?_
  refine lv_aload_n hx hb dL_law_550 rfl (lv_at hl 0 rfl) ?_
  refine lv_iload hx hb dL_law_551 (lv_at hl 4 rfl) ?_
  refine k_ic (x := 2) hx hb dL_law_553 (by decide) ?_
  refine k_iadd hx hb dL_law_554 ?_
  refine k_sld hx hb hX hbl hbA hS (by omega) hL dL_law_555 ?_
  refine lv_aload_n hx hb dL_law_556 rfl (lv_at hl 3 rfl) ?_
  obtain ⟨rm, f2, hrm, hf2, hMet⟩ := hWP (A2 a o n H.size) o H.size f (A2_Ap hDj) (Or.inr (Or.inl rfl)) hDj.2.2.2.1 (fun q hq => Or.inr (Or.inr hq))
  refine kS_W (r := nI k) (st2 := s2) (f2 := f2) (As := [.ref (a 0), .int (xs (i + 1)), .int (xs (i + 2)), .ref o]) (rest := []) hfx hMet (vx_cwSW 4 hts gL_law_L_valueAt rfl hrm.1 hrm.2.1 (by decide +kernel) ⟨by show rm.frames + 1 ≤ 10; omega, by show 8 + (5 + 11) + rm.locals ≤ 348; omega⟩) hC ((T_at hT0 hS).narrow (A2_in hDj hS)) hN hP hO hS (A2_in hDj hS) rfl hl.1 rfl (Nat.le_of_ble_eq_true rfl) dL_law_557 hcl (fun H1 locs1 hP hO hS2 hz1 hk1 => ?_)
  have hM := A2_M hDj hM hk1
  clear hk1 hz1 hS
  refine lv_istore (lv' := [(5, .int (nI k)), (0, .ref b), (1, .ref (a 0)), (2, .ref (am 0)), (3, .ref o), (4, .int (nI i))]) hx hb dL_law_560 hl (by decide) rfl (fun ls hl => ?_)
  have hS := hS2
  refine lv_aload_n hx hb dL_law_562 rfl (lv_at hl 3 rfl) ?_
  refine lv_aload_n hx hb dL_law_563 rfl (lv_at hl 1 rfl) ?_
  refine lv_iload hx hb dL_law_564 (lv_at hl 5 rfl) ?_
  refine k_ic (x := 1) hx hb dL_law_566 (by decide) ?_
  refine k_iadd hx hb dL_law_567 ?_
  refine k_sld hx hb hX hbl hbA hS (by omega) hL dL_law_568 ?_
  refine lv_aload_n hx hb dL_law_569 rfl (lv_at hl 1 rfl) ?_
  refine lv_iload hx hb dL_law_570 (lv_at hl 5 rfl) ?_
  refine k_ic (x := 2) hx hb dL_law_572 (by decide) ?_
  refine k_iadd hx hb dL_law_573 ?_
  refine k_sld hx hb hX hbl hbA hS (by omega) hL dL_law_574 ?_
  obtain ⟨rm2, hrm2, hMet2⟩ := hMP (AM am) (AM_Ap hDj)
  refine kV_i (r := bb) (w2 := wM g am t2) (As := [.int (xs (i + 1)), .int (xs (i + 2))]) (b := am 0) (rest := []) (A1 := AM am) hfx hMet2 (cwV 2 hts gL_law_X4_valueAt rfl hrm2.1 hrm2.2.1 (by decide +kernel) ⟨by show rm2.frames + 1 ≤ 10; omega, by show 8 + (3 + 11) + rm2.locals ≤ 348; omega⟩) (va_recv hC.1 hM (ci := 4) rfl wM_obj) hC hM hS (AM_in hDj) rfl hl.1 rfl (Nat.le_of_ble_eq_true rfl) dL_law_575 ⟨by show cells + 1 + 0 ≤ 617831; omega, by show slots + 6 + 0 ≤ 7242576; omega⟩ (fun H2 locs2 hM hS3 hz2 hk2 => ?_)
  have hP := AM_C hDj hP hk2
  have hO := AM_O hDj hO hk2
  clear hk2 hz2 hS2 hS
  have hS := hS3
  refine lv_istore (lv' := [(6, .int bb), (5, .int (nI k)), (0, .ref b), (1, .ref (a 0)), (2, .ref (am 0)), (3, .ref o), (4, .int (nI i))]) hx hb dL_law_578 hl (by decide) rfl (fun ls hl => ?_)
  refine lv_aload_n hx hb dL_law_580 rfl (lv_at hl 4 rfl) ?_
  refine kV_i (r := nI (t2 9 0 0)) (w2 := wM g am t2) (As := []) (b := am 0) (rest := []) (A1 := AM am) hfx (c_X4_thrown l (n := n) (AM_Ap hDj)) (cwV 0 hts gL_law_X4_thrown rfl rfl rfl (by decide +kernel) ⟨by decide, by decide⟩) (va_recv hC.1 hM (ci := 4) rfl wM_obj) hC hM hS (AM_in hDj) rfl hl.1 rfl (Nat.le_of_ble_eq_true rfl) dL_law_581 ⟨by show cells + 1 + 0 + 0 ≤ 617831; omega, by show slots + 6 + 0 + 0 ≤ 7242576; omega⟩ (fun H3 locs3 hM hS4 hz3 hk3 => ?_)
  have hP := AM_C hDj hP hk3
  have hO := AM_O hDj hO hk3
  rw [ht9]
  refine lv_iload hx hb dL_law_584 (lv_at hl 1 rfl) ?_
  refine k_icmp_eq (tgt := 591) hx hb dL_law_586 (by decide) (by omega) (by omega) (fun _ => ?_) (fun h => absurd rfl h)
  refine lv_iload hx hb dL_law_591 (lv_at hl 1 rfl) ?_
  have fin : W p l e room_1 s m #[Value.ref b] below meth c H3 locs3 (cells + 1) (slots + 6) Q (F0 m 608 ls []) := by
    refine lv_goto (tgt := 820) hx hb dL_law_608 (by decide) ?_
    exact kk s2 t2 f2 H3 locs3 ls ⟨hR2, hP, hM, hO, hS4, lv_sub hl [2, 3, 4, 5, 6] rfl⟩
  refine k_if_ne (tgt := 608) hx hb dL_law_593 (by decide) (by omega) (fun _ => fin) (fun hk0 => ?_)
  refine lv_aload_n hx hb dL_law_596 rfl (lv_at hl 5 rfl) ?_
  refine k_ic (x := 0) hx hb dL_law_597 (by decide) ?_
  refine k_lald0 hx hb hC hO dL_law_598 ?_
  refine lv_iload hx hb dL_law_599 (lv_at hl 0 rfl) ?_
  refine lv_i2l (v := bb.toInt64) hx hb dL_law_601 rfl ?_
  exact k_lcmp0 (tgt := 608) hx hb (hf2 hk0) dL_law_602 dL_law_603 (by decide) fin
set_option maxHeartbeats 4000000 in
set_option maxRecDepth 100000 in
theorem law_history {p : Program} {l : Launch} {e : Env} {s : State} {m : MethodId} {below : List Frame} {meth : Method} {c : Code} {b L : Nat} {xs : Nat → Int32} {g : GG} {sa a am : Nat → Nat} {o n : Nat} (C0 : LC p l s m c b L xs g sa a am o n) {i : Nat} {st t : CS} {f : Nat → Int64} {H : Heap} {locs : List Loc} {ls : Array Slot} (I0 : LI s b g a am o n i st t f H locs ls) (hi : i + 3 ≤ L) {cells slots : Nat} (hcl : cells + 1 ≤ 617831 ∧ slots + 6 ≤ 7242576) {Q : State → Prop}
    (kk : ∀ (st' t' : CS) (f' : Nat → Int64) (H' : Heap) (locs' : List Loc) (ls' : Array Slot), LI s b g a am o n i st' t' f' H' locs' ls' → W p l e room_1 s m #[Value.ref b] below meth c H' locs' (cells + 1) (slots + 6) Q (F0 m 820 ls' [])) : W p l e room_1 s m #[Value.ref b] below meth c H locs cells slots Q (F0 m 611 ls []) := by
  obtain ⟨hx, hb, hml, hown, hts, hX, hbl, hL, hlt, hC, hT0, hN, hDj⟩ := C0
  obtain ⟨hR, hP, hM, hO, hS, hl⟩ := I0
  have hbA : ¬ A0 s b := Nat.not_le.mpr hbl
  have hfx : CallFix p m c cL_law 9 s #[Value.ref b] wsL_law RL := ⟨hx, hb, hml, hown, hts⟩
  obtain ⟨k, s2, t2, bb, hk3, hR2, ht9, hWP, hMP⟩ := op_history (g := g) (sa := sa) (a := a) (am := am) hlt hR (xs (i + 1))
  refine lv_aload_n hx hb dL_law_611 rfl (lv_at hl 1 rfl) ?_
  refine lv_aload_n hx hb dL_law_612 rfl (lv_at hl 0 rfl) ?_
  refine lv_iload hx hb dL_law_613 (lv_at hl 4 rfl) ?_
  refine k_ic (x := 1) hx hb dL_law_615 (by decide) ?_
  refine k_iadd hx hb dL_law_616 ?_
  refine k_sld hx hb hX hbl hbA hS (by omega) hL dL_law_617 ?_
  refine lv_aload_n hx hb dL_law_618 rfl (lv_at hl 3 rfl) ?_
  obtain ⟨rm, f2, hrm, hf2, hMet⟩ := hWP (A2 a o n H.size) o H.size f (A2_Ap hDj) (Or.inr (Or.inl rfl)) hDj.2.2.2.1 (fun q hq => Or.inr (Or.inr hq))
  refine kS_W (r := nI k) (st2 := s2) (f2 := f2) (As := [.ref (a 0), .int (xs (i + 1)), .ref o]) (rest := []) hfx hMet (vx_cwSW 3 hts gL_law_L_history rfl hrm.1 hrm.2.1 (by decide +kernel) ⟨by show rm.frames + 1 ≤ 10; omega, by show 8 + (4 + 11) + rm.locals ≤ 348; omega⟩) hC ((T_at hT0 hS).narrow (A2_in hDj hS)) hN hP hO hS (A2_in hDj hS) rfl hl.1 rfl (Nat.le_of_ble_eq_true rfl) dL_law_619 hcl (fun H1 locs1 hP hO hS2 hz1 hk1 => ?_)
  have hM := A2_M hDj hM hk1
  clear hk1 hz1 hS
  refine lv_istore (lv' := [(5, .int (nI k)), (0, .ref b), (1, .ref (a 0)), (2, .ref (am 0)), (3, .ref o), (4, .int (nI i))]) hx hb dL_law_622 hl (by decide) rfl (fun ls hl => ?_)
  have hS := hS2
  refine lv_aload_n hx hb dL_law_624 rfl (lv_at hl 3 rfl) ?_
  refine lv_aload_n hx hb dL_law_625 rfl (lv_at hl 1 rfl) ?_
  refine lv_iload hx hb dL_law_626 (lv_at hl 5 rfl) ?_
  refine k_ic (x := 1) hx hb dL_law_628 (by decide) ?_
  refine k_iadd hx hb dL_law_629 ?_
  refine k_sld hx hb hX hbl hbA hS (by omega) hL dL_law_630 ?_
  obtain ⟨rm2, hrm2, hMet2⟩ := hMP (AM am) (AM_Ap hDj)
  refine kV_i (r := bb) (w2 := wM g am t2) (As := [.int (xs (i + 1))]) (b := am 0) (rest := []) (A1 := AM am) hfx hMet2 (cwV 1 hts gL_law_X4_history rfl hrm2.1 hrm2.2.1 (by decide +kernel) ⟨by show rm2.frames + 1 ≤ 10; omega, by show 8 + (2 + 11) + rm2.locals ≤ 348; omega⟩) (va_recv hC.1 hM (ci := 4) rfl wM_obj) hC hM hS (AM_in hDj) rfl hl.1 rfl (Nat.le_of_ble_eq_true rfl) dL_law_631 ⟨by show cells + 1 + 0 ≤ 617831; omega, by show slots + 6 + 0 ≤ 7242576; omega⟩ (fun H2 locs2 hM hS3 hz2 hk2 => ?_)
  have hP := AM_C hDj hP hk2
  have hO := AM_O hDj hO hk2
  clear hk2 hz2 hS2 hS
  have hS := hS3
  refine lv_istore (lv' := [(6, .int bb), (5, .int (nI k)), (0, .ref b), (1, .ref (a 0)), (2, .ref (am 0)), (3, .ref o), (4, .int (nI i))]) hx hb dL_law_634 hl (by decide) rfl (fun ls hl => ?_)
  refine lv_aload_n hx hb dL_law_636 rfl (lv_at hl 4 rfl) ?_
  refine kV_i (r := nI (t2 9 0 0)) (w2 := wM g am t2) (As := []) (b := am 0) (rest := []) (A1 := AM am) hfx (c_X4_thrown l (n := n) (AM_Ap hDj)) (cwV 0 hts gL_law_X4_thrown rfl rfl rfl (by decide +kernel) ⟨by decide, by decide⟩) (va_recv hC.1 hM (ci := 4) rfl wM_obj) hC hM hS (AM_in hDj) rfl hl.1 rfl (Nat.le_of_ble_eq_true rfl) dL_law_637 ⟨by show cells + 1 + 0 + 0 ≤ 617831; omega, by show slots + 6 + 0 + 0 ≤ 7242576; omega⟩ (fun H3 locs3 hM hS4 hz3 hk3 => ?_)
  have hP := AM_C hDj hP hk3
  have hO := AM_O hDj hO hk3
  rw [ht9]
  refine lv_iload hx hb dL_law_640 (lv_at hl 1 rfl) ?_
  refine k_icmp_eq (tgt := 647) hx hb dL_law_642 (by decide) (by omega) (by omega) (fun _ => ?_) (fun h => absurd rfl h)
  refine lv_iload hx hb dL_law_647 (lv_at hl 1 rfl) ?_
  have fin : W p l e room_1 s m #[Value.ref b] below meth c H3 locs3 (cells + 1) (slots + 6) Q (F0 m 664 ls []) := by
    refine lv_goto (tgt := 820) hx hb dL_law_664 (by decide) ?_
    exact kk s2 t2 f2 H3 locs3 ls ⟨hR2, hP, hM, hO, hS4, lv_sub hl [2, 3, 4, 5, 6] rfl⟩
  refine k_if_ne (tgt := 664) hx hb dL_law_649 (by decide) (by omega) (fun _ => fin) (fun hk0 => ?_)
  refine lv_aload_n hx hb dL_law_652 rfl (lv_at hl 5 rfl) ?_
  refine k_ic (x := 0) hx hb dL_law_653 (by decide) ?_
  refine k_lald0 hx hb hC hO dL_law_654 ?_
  refine lv_iload hx hb dL_law_655 (lv_at hl 0 rfl) ?_
  refine lv_i2l (v := bb.toInt64) hx hb dL_law_657 rfl ?_
  exact k_lcmp0 (tgt := 664) hx hb (hf2 hk0) dL_law_658 dL_law_659 (by decide) fin
set_option maxHeartbeats 4000000 in
set_option maxRecDepth 100000 in
theorem law_sent {p : Program} {l : Launch} {e : Env} {s : State} {m : MethodId} {below : List Frame} {meth : Method} {c : Code} {b L : Nat} {xs : Nat → Int32} {g : GG} {sa a am : Nat → Nat} {o n : Nat} (C0 : LC p l s m c b L xs g sa a am o n) {i : Nat} {st t : CS} {f : Nat → Int64} {H : Heap} {locs : List Loc} {ls : Array Slot} (I0 : LI s b g a am o n i st t f H locs ls) (hi : i + 3 ≤ L) {cells slots : Nat} (hcl : cells + 1 ≤ 617831 ∧ slots + 6 ≤ 7242576) {Q : State → Prop}
    (kk : ∀ (st' t' : CS) (f' : Nat → Int64) (H' : Heap) (locs' : List Loc) (ls' : Array Slot), LI s b g a am o n i st' t' f' H' locs' ls' → W p l e room_1 s m #[Value.ref b] below meth c H' locs' (cells + 1) (slots + 6) Q (F0 m 820 ls' [])) : W p l e room_1 s m #[Value.ref b] below meth c H locs cells slots Q (F0 m 667 ls []) := by
  obtain ⟨hx, hb, hml, hown, hts, hX, hbl, hL, hlt, hC, hT0, hN, hDj⟩ := C0
  obtain ⟨hR, hP, hM, hO, hS, hl⟩ := I0
  have hbA : ¬ A0 s b := Nat.not_le.mpr hbl
  have hfx : CallFix p m c cL_law 9 s #[Value.ref b] wsL_law RL := ⟨hx, hb, hml, hown, hts⟩
  obtain ⟨k, s2, t2, bb, hk3, hR2, ht9, hWP, hMP⟩ := op_sent (g := g) (sa := sa) (a := a) (am := am) hlt hR (xs (i + 1))
  refine lv_aload_n hx hb dL_law_667 rfl (lv_at hl 1 rfl) ?_
  refine lv_aload_n hx hb dL_law_668 rfl (lv_at hl 0 rfl) ?_
  refine lv_iload hx hb dL_law_669 (lv_at hl 4 rfl) ?_
  refine k_ic (x := 1) hx hb dL_law_671 (by decide) ?_
  refine k_iadd hx hb dL_law_672 ?_
  refine k_sld hx hb hX hbl hbA hS (by omega) hL dL_law_673 ?_
  refine lv_aload_n hx hb dL_law_674 rfl (lv_at hl 3 rfl) ?_
  obtain ⟨rm, f2, hrm, hf2, hMet⟩ := hWP (A2 a o n H.size) o H.size f (A2_Ap hDj) (Or.inr (Or.inl rfl)) hDj.2.2.2.1 (fun q hq => Or.inr (Or.inr hq))
  refine kS_W (r := nI k) (st2 := s2) (f2 := f2) (As := [.ref (a 0), .int (xs (i + 1)), .ref o]) (rest := []) hfx hMet (vx_cwSW 3 hts gL_law_L_sent rfl hrm.1 hrm.2.1 (by decide +kernel) ⟨by show rm.frames + 1 ≤ 10; omega, by show 8 + (4 + 11) + rm.locals ≤ 348; omega⟩) hC ((T_at hT0 hS).narrow (A2_in hDj hS)) hN hP hO hS (A2_in hDj hS) rfl hl.1 rfl (Nat.le_of_ble_eq_true rfl) dL_law_675 hcl (fun H1 locs1 hP hO hS2 hz1 hk1 => ?_)
  have hM := A2_M hDj hM hk1
  clear hk1 hz1 hS
  refine lv_istore (lv' := [(5, .int (nI k)), (0, .ref b), (1, .ref (a 0)), (2, .ref (am 0)), (3, .ref o), (4, .int (nI i))]) hx hb dL_law_678 hl (by decide) rfl (fun ls hl => ?_)
  have hS := hS2
  refine lv_aload_n hx hb dL_law_680 rfl (lv_at hl 3 rfl) ?_
  refine lv_aload_n hx hb dL_law_681 rfl (lv_at hl 1 rfl) ?_
  refine lv_iload hx hb dL_law_682 (lv_at hl 5 rfl) ?_
  refine k_ic (x := 1) hx hb dL_law_684 (by decide) ?_
  refine k_iadd hx hb dL_law_685 ?_
  refine k_sld hx hb hX hbl hbA hS (by omega) hL dL_law_686 ?_
  obtain ⟨rm2, hrm2, hMet2⟩ := hMP (AM am) (AM_Ap hDj)
  refine kV_i (r := bb) (w2 := wM g am t2) (As := [.int (xs (i + 1))]) (b := am 0) (rest := []) (A1 := AM am) hfx hMet2 (cwV 1 hts gL_law_X4_sent rfl hrm2.1 hrm2.2.1 (by decide +kernel) ⟨by show rm2.frames + 1 ≤ 10; omega, by show 8 + (2 + 11) + rm2.locals ≤ 348; omega⟩) (va_recv hC.1 hM (ci := 4) rfl wM_obj) hC hM hS (AM_in hDj) rfl hl.1 rfl (Nat.le_of_ble_eq_true rfl) dL_law_687 ⟨by show cells + 1 + 0 ≤ 617831; omega, by show slots + 6 + 0 ≤ 7242576; omega⟩ (fun H2 locs2 hM hS3 hz2 hk2 => ?_)
  have hP := AM_C hDj hP hk2
  have hO := AM_O hDj hO hk2
  clear hk2 hz2 hS2 hS
  have hS := hS3
  refine lv_istore (lv' := [(6, .int bb), (5, .int (nI k)), (0, .ref b), (1, .ref (a 0)), (2, .ref (am 0)), (3, .ref o), (4, .int (nI i))]) hx hb dL_law_690 hl (by decide) rfl (fun ls hl => ?_)
  refine lv_aload_n hx hb dL_law_692 rfl (lv_at hl 4 rfl) ?_
  refine kV_i (r := nI (t2 9 0 0)) (w2 := wM g am t2) (As := []) (b := am 0) (rest := []) (A1 := AM am) hfx (c_X4_thrown l (n := n) (AM_Ap hDj)) (cwV 0 hts gL_law_X4_thrown rfl rfl rfl (by decide +kernel) ⟨by decide, by decide⟩) (va_recv hC.1 hM (ci := 4) rfl wM_obj) hC hM hS (AM_in hDj) rfl hl.1 rfl (Nat.le_of_ble_eq_true rfl) dL_law_693 ⟨by show cells + 1 + 0 + 0 ≤ 617831; omega, by show slots + 6 + 0 + 0 ≤ 7242576; omega⟩ (fun H3 locs3 hM hS4 hz3 hk3 => ?_)
  have hP := AM_C hDj hP hk3
  have hO := AM_O hDj hO hk3
  rw [ht9]
  refine lv_iload hx hb dL_law_696 (lv_at hl 1 rfl) ?_
  refine k_icmp_eq (tgt := 703) hx hb dL_law_698 (by decide) (by omega) (by omega) (fun _ => ?_) (fun h => absurd rfl h)
  refine lv_iload hx hb dL_law_703 (lv_at hl 1 rfl) ?_
  have fin : W p l e room_1 s m #[Value.ref b] below meth c H3 locs3 (cells + 1) (slots + 6) Q (F0 m 720 ls []) := by
    refine lv_goto (tgt := 820) hx hb dL_law_720 (by decide) ?_
    exact kk s2 t2 f2 H3 locs3 ls ⟨hR2, hP, hM, hO, hS4, lv_sub hl [2, 3, 4, 5, 6] rfl⟩
  refine k_if_ne (tgt := 720) hx hb dL_law_705 (by decide) (by omega) (fun _ => fin) (fun hk0 => ?_)
  refine lv_aload_n hx hb dL_law_708 rfl (lv_at hl 5 rfl) ?_
  refine k_ic (x := 0) hx hb dL_law_709 (by decide) ?_
  refine k_lald0 hx hb hC hO dL_law_710 ?_
  refine lv_iload hx hb dL_law_711 (lv_at hl 0 rfl) ?_
  refine lv_i2l (v := bb.toInt64) hx hb dL_law_713 rfl ?_
  exact k_lcmp0 (tgt := 720) hx hb (hf2 hk0) dL_law_714 dL_law_715 (by decide) fin
set_option maxHeartbeats 4000000 in
set_option maxRecDepth 100000 in
theorem law_waiting {p : Program} {l : Launch} {e : Env} {s : State} {m : MethodId} {below : List Frame} {meth : Method} {c : Code} {b L : Nat} {xs : Nat → Int32} {g : GG} {sa a am : Nat → Nat} {o n : Nat} (C0 : LC p l s m c b L xs g sa a am o n) {i : Nat} {st t : CS} {f : Nat → Int64} {H : Heap} {locs : List Loc} {ls : Array Slot} (I0 : LI s b g a am o n i st t f H locs ls) (hi : i + 3 ≤ L) {cells slots : Nat} (hcl : cells + 1 ≤ 617831 ∧ slots + 6 ≤ 7242576) {Q : State → Prop}
    (kk : ∀ (st' t' : CS) (f' : Nat → Int64) (H' : Heap) (locs' : List Loc) (ls' : Array Slot), LI s b g a am o n i st' t' f' H' locs' ls' → W p l e room_1 s m #[Value.ref b] below meth c H' locs' (cells + 1) (slots + 6) Q (F0 m 820 ls' [])) : W p l e room_1 s m #[Value.ref b] below meth c H locs cells slots Q (F0 m 723 ls []) := by
  obtain ⟨hx, hb, hml, hown, hts, hX, hbl, hL, hlt, hC, hT0, hN, hDj⟩ := C0
  obtain ⟨hR, hP, hM, hO, hS, hl⟩ := I0
  have hbA : ¬ A0 s b := Nat.not_le.mpr hbl
  have hfx : CallFix p m c cL_law 9 s #[Value.ref b] wsL_law RL := ⟨hx, hb, hml, hown, hts⟩
  obtain ⟨k, s2, t2, bb, hk3, hR2, ht9, hWP, hMP⟩ := op_waiting (g := g) (sa := sa) (a := a) (am := am) hlt hR (xs (i + 1))
  refine lv_aload_n hx hb dL_law_723 rfl (lv_at hl 1 rfl) ?_
  refine lv_aload_n hx hb dL_law_724 rfl (lv_at hl 0 rfl) ?_
  refine lv_iload hx hb dL_law_725 (lv_at hl 4 rfl) ?_
  refine k_ic (x := 1) hx hb dL_law_727 (by decide) ?_
  refine k_iadd hx hb dL_law_728 ?_
  refine k_sld hx hb hX hbl hbA hS (by omega) hL dL_law_729 ?_
  refine lv_aload_n hx hb dL_law_730 rfl (lv_at hl 3 rfl) ?_
  obtain ⟨rm, f2, hrm, hf2, hMet⟩ := hWP (A2 a o n H.size) o H.size f (A2_Ap hDj) (Or.inr (Or.inl rfl)) hDj.2.2.2.1 (fun q hq => Or.inr (Or.inr hq))
  refine kS_W (r := nI k) (st2 := s2) (f2 := f2) (As := [.ref (a 0), .int (xs (i + 1)), .ref o]) (rest := []) hfx hMet (vx_cwSW 3 hts gL_law_L_waiting rfl hrm.1 hrm.2.1 (by decide +kernel) ⟨by show rm.frames + 1 ≤ 10; omega, by show 8 + (4 + 11) + rm.locals ≤ 348; omega⟩) hC ((T_at hT0 hS).narrow (A2_in hDj hS)) hN hP hO hS (A2_in hDj hS) rfl hl.1 rfl (Nat.le_of_ble_eq_true rfl) dL_law_731 hcl (fun H1 locs1 hP hO hS2 hz1 hk1 => ?_)
  have hM := A2_M hDj hM hk1
  clear hk1 hz1 hS
  refine lv_istore (lv' := [(5, .int (nI k)), (0, .ref b), (1, .ref (a 0)), (2, .ref (am 0)), (3, .ref o), (4, .int (nI i))]) hx hb dL_law_734 hl (by decide) rfl (fun ls hl => ?_)
  have hS := hS2
  refine lv_aload_n hx hb dL_law_736 rfl (lv_at hl 3 rfl) ?_
  refine lv_aload_n hx hb dL_law_737 rfl (lv_at hl 1 rfl) ?_
  refine lv_iload hx hb dL_law_738 (lv_at hl 5 rfl) ?_
  refine k_ic (x := 1) hx hb dL_law_740 (by decide) ?_
  refine k_iadd hx hb dL_law_741 ?_
  refine k_sld hx hb hX hbl hbA hS (by omega) hL dL_law_742 ?_
  obtain ⟨rm2, hrm2, hMet2⟩ := hMP (AM am) (AM_Ap hDj)
  refine kV_i (r := bb) (w2 := wM g am t2) (As := [.int (xs (i + 1))]) (b := am 0) (rest := []) (A1 := AM am) hfx hMet2 (cwV 1 hts gL_law_X4_waiting rfl hrm2.1 hrm2.2.1 (by decide +kernel) ⟨by show rm2.frames + 1 ≤ 10; omega, by show 8 + (2 + 11) + rm2.locals ≤ 348; omega⟩) (va_recv hC.1 hM (ci := 4) rfl wM_obj) hC hM hS (AM_in hDj) rfl hl.1 rfl (Nat.le_of_ble_eq_true rfl) dL_law_743 ⟨by show cells + 1 + 0 ≤ 617831; omega, by show slots + 6 + 0 ≤ 7242576; omega⟩ (fun H2 locs2 hM hS3 hz2 hk2 => ?_)
  have hP := AM_C hDj hP hk2
  have hO := AM_O hDj hO hk2
  clear hk2 hz2 hS2 hS
  have hS := hS3
  refine lv_istore (lv' := [(6, .int bb), (5, .int (nI k)), (0, .ref b), (1, .ref (a 0)), (2, .ref (am 0)), (3, .ref o), (4, .int (nI i))]) hx hb dL_law_746 hl (by decide) rfl (fun ls hl => ?_)
  refine lv_aload_n hx hb dL_law_748 rfl (lv_at hl 4 rfl) ?_
  refine kV_i (r := nI (t2 9 0 0)) (w2 := wM g am t2) (As := []) (b := am 0) (rest := []) (A1 := AM am) hfx (c_X4_thrown l (n := n) (AM_Ap hDj)) (cwV 0 hts gL_law_X4_thrown rfl rfl rfl (by decide +kernel) ⟨by decide, by decide⟩) (va_recv hC.1 hM (ci := 4) rfl wM_obj) hC hM hS (AM_in hDj) rfl hl.1 rfl (Nat.le_of_ble_eq_true rfl) dL_law_749 ⟨by show cells + 1 + 0 + 0 ≤ 617831; omega, by show slots + 6 + 0 + 0 ≤ 7242576; omega⟩ (fun H3 locs3 hM hS4 hz3 hk3 => ?_)
  have hP := AM_C hDj hP hk3
  have hO := AM_O hDj hO hk3
  rw [ht9]
  refine lv_iload hx hb dL_law_752 (lv_at hl 1 rfl) ?_
  refine k_icmp_eq (tgt := 759) hx hb dL_law_754 (by decide) (by omega) (by omega) (fun _ => ?_) (fun h => absurd rfl h)
  refine lv_iload hx hb dL_law_759 (lv_at hl 1 rfl) ?_
  have fin : W p l e room_1 s m #[Value.ref b] below meth c H3 locs3 (cells + 1) (slots + 6) Q (F0 m 776 ls []) := by
    refine lv_goto (tgt := 820) hx hb dL_law_776 (by decide) ?_
    exact kk s2 t2 f2 H3 locs3 ls ⟨hR2, hP, hM, hO, hS4, lv_sub hl [2, 3, 4, 5, 6] rfl⟩
  refine k_if_ne (tgt := 776) hx hb dL_law_761 (by decide) (by omega) (fun _ => fin) (fun hk0 => ?_)
  refine lv_aload_n hx hb dL_law_764 rfl (lv_at hl 5 rfl) ?_
  refine k_ic (x := 0) hx hb dL_law_765 (by decide) ?_
  refine k_lald0 hx hb hC hO dL_law_766 ?_
  refine lv_iload hx hb dL_law_767 (lv_at hl 0 rfl) ?_
  refine lv_i2l (v := bb.toInt64) hx hb dL_law_769 rfl ?_
  exact k_lcmp0 (tgt := 776) hx hb (hf2 hk0) dL_law_770 dL_law_771 (by decide) fin
set_option maxHeartbeats 4000000 in
set_option maxRecDepth 100000 in
theorem law_repair {p : Program} {l : Launch} {e : Env} {s : State} {m : MethodId} {below : List Frame} {meth : Method} {c : Code} {b L : Nat} {xs : Nat → Int32} {g : GG} {sa a am : Nat → Nat} {o n : Nat} (C0 : LC p l s m c b L xs g sa a am o n) {i : Nat} {st t : CS} {f : Nat → Int64} {H : Heap} {locs : List Loc} {ls : Array Slot} (I0 : LI s b g a am o n i st t f H locs ls) (hi : i + 3 ≤ L) {cells slots : Nat} (hcl : cells + 1 ≤ 617831 ∧ slots + 6 ≤ 7242576) {Q : State → Prop}
    (kk : ∀ (st' t' : CS) (f' : Nat → Int64) (H' : Heap) (locs' : List Loc) (ls' : Array Slot), LI s b g a am o n i st' t' f' H' locs' ls' → W p l e room_1 s m #[Value.ref b] below meth c H' locs' (cells + 1) (slots + 6) Q (F0 m 820 ls' [])) : W p l e room_1 s m #[Value.ref b] below meth c H locs cells slots Q (F0 m 423 ls []) := by
  obtain ⟨hx, hb, hml, hown, hts, hX, hbl, hL, hlt, hC, hT0, hN, hDj⟩ := C0
  obtain ⟨hR, hP, hM, hO, hS, hl⟩ := I0
  have hbA : ¬ A0 s b := Nat.not_le.mpr hbl
  have hfx : CallFix p m c cL_law 9 s #[Value.ref b] wsL_law RL := ⟨hx, hb, hml, hown, hts⟩
  obtain ⟨r1, r2, r3, r4⟩ := R_repair hR
  have ht1 : t 1 0 0 = st 1 0 0 := hR.2.2.1
  have hans : nI (st 1 0 0 - (outS st) 1 0 0) = nI (t 1 0 0 - (tkM (w3 t 9 0 0 0) (t 1 0 0)).2) := by rw [r2, ht1]
  have n6 := hR.2.1.2.1.1
  refine lv_aload_n hx hb dL_law_423 rfl (lv_at hl 1 rfl) ?_
  refine kV_i (r := nI (st 1 0 0 - (outS st) 1 0 0)) (w2 := wC g a n (repS st)) (As := []) (b := a 0) (rest := []) (A1 := AC a n) hfx (c_X3_repair l (AC_Ap hDj) n6 hR.1 r1 r3) (cwV 0 hts gL_law_X3_repair rfl rfl rfl (by decide +kernel) ⟨by decide, by decide⟩) (va_recv hC.1 hP (ci := 3) rfl wC_obj) hC hP hS (AC_in hDj) rfl hl.1 rfl (Nat.le_of_ble_eq_true rfl) dL_law_424 ⟨by show cells + 0 ≤ 617831; omega, by show slots + 0 ≤ 7242576; omega⟩ (fun H1 locs1 hP hS2 hz1 hk1 => ?_)
  have hM := AC_M hDj hM hk1
  have hO := AC_O hDj hO hk1
  clear hk1 hz1 hS
  have hS := hS2
  refine lv_aload_n hx hb dL_law_427 rfl (lv_at hl 2 rfl) ?_
  refine kV_i (r := nI (t 1 0 0 - (tkM (w3 t 9 0 0 0) (t 1 0 0)).2)) (w2 := wM g am (repM t)) (As := []) (b := am 0) (rest := [.int (nI (st 1 0 0 - (outS st) 1 0 0))]) (A1 := AM am) hfx (c_X4_repair l (AM_Ap hDj) hR.2.1 (by rw [r2, show outS st 1 0 0 = (tko st (st 1 0 0)).2 from w3_eq]; exact r1)) (cwV 0 hts gL_law_X4_repair rfl rfl rfl (by decide +kernel) ⟨by decide, by decide⟩) (va_recv hC.1 hM (ci := 4) rfl wM_obj) hC hM hS (AM_in hDj) rfl hl.1 rfl (Nat.le_of_ble_eq_true rfl) dL_law_428 ⟨by show cells + 0 + 0 ≤ 617831; omega, by show slots + 0 + 0 ≤ 7242576; omega⟩ (fun H2 locs2 hM hS3 hz2 hk2 => ?_)
  have hP := AM_C hDj hP hk2
  have hO := AM_O hDj hO hk2
  have fin : W p l e room_1 s m #[Value.ref b] below meth c H2 locs2 (cells + 0 + 0) (slots + 0 + 0) Q (F0 m 820 ls []) := by
    refine W.widen (k := cells + 1) (n := slots + 6) (by omega) (by omega) ?_
    exact kk (repS st) (repM t) f H2 locs2 ls ⟨r4, hP, hM, hO, hS3, hl⟩
  exact lv_icmp_eq (tgt := 820) hx hb dL_law_431 (by decide) (fun _ => fin) (fun h => absurd hans h)
set_option maxHeartbeats 4000000 in
set_option maxRecDepth 100000 in
theorem law_replied {p : Program} {l : Launch} {e : Env} {s : State} {m : MethodId} {below : List Frame} {meth : Method} {c : Code} {b L : Nat} {xs : Nat → Int32} {g : GG} {sa a am : Nat → Nat} {o n : Nat} (C0 : LC p l s m c b L xs g sa a am o n) {i : Nat} {st t : CS} {f : Nat → Int64} {H : Heap} {locs : List Loc} {ls : Array Slot} (I0 : LI s b g a am o n i st t f H locs ls) (hi : i + 3 ≤ L) {cells slots : Nat} (hcl : cells + 1 ≤ 617831 ∧ slots + 6 ≤ 7242576) {Q : State → Prop}
    (kk : ∀ (st' t' : CS) (f' : Nat → Int64) (H' : Heap) (locs' : List Loc) (ls' : Array Slot), LI s b g a am o n i st' t' f' H' locs' ls' → W p l e room_1 s m #[Value.ref b] below meth c H' locs' (cells + 1) (slots + 6) Q (F0 m 820 ls' [])) : W p l e room_1 s m #[Value.ref b] below meth c H locs cells slots Q (F0 m 492 ls []) := by
  obtain ⟨hx, hb, hml, hown, hts, hX, hbl, hL, hlt, hC, hT0, hN, hDj⟩ := C0
  obtain ⟨hR, hP, hM, hO, hS, hl⟩ := I0
  have hbA : ¬ A0 s b := Nat.not_le.mpr hbl
  have hfx : CallFix p m c cL_law 9 s #[Value.ref b] wsL_law RL := ⟨hx, hb, hml, hown, hts⟩
  have hans : nI (if 1 ≤ xs (i + 1) ∧ xs (i + 1) ≤ nI (st 4 0 0) then 1 else 0) = nI (if 1 ≤ xs (i + 1) ∧ xs (i + 1) ≤ nI (t 8 0 0) then 1 else 0) := by rw [hR.2.2.2.2.2.2.2.2.2.2.2.1]
  have n6 := hR.2.1.2.1.1
  refine lv_aload_n hx hb dL_law_492 rfl (lv_at hl 1 rfl) ?_
  refine lv_aload_n hx hb dL_law_493 rfl (lv_at hl 0 rfl) ?_
  refine lv_iload hx hb dL_law_494 (lv_at hl 4 rfl) ?_
  refine k_ic (x := 1) hx hb dL_law_496 (by decide) ?_
  refine k_iadd hx hb dL_law_497 ?_
  refine k_sld hx hb hX hbl hbA hS (by omega) hL dL_law_498 ?_
  refine kV_i (r := nI (if 1 ≤ xs (i + 1) ∧ xs (i + 1) ≤ nI (st 4 0 0) then 1 else 0)) (w2 := wC g a n (st)) (As := [.int (xs (i + 1))]) (b := a 0) (rest := []) (A1 := AC a n) hfx (c_X3_replied l (AC_Ap hDj) n6) (cwV 1 hts gL_law_X3_replied rfl rfl rfl (by decide +kernel) ⟨by decide, by decide⟩) (va_recv hC.1 hP (ci := 3) rfl wC_obj) hC hP hS (AC_in hDj) rfl hl.1 rfl (Nat.le_of_ble_eq_true rfl) dL_law_499 ⟨by show cells + 0 ≤ 617831; omega, by show slots + 0 ≤ 7242576; omega⟩ (fun H1 locs1 hP hS2 hz1 hk1 => ?_)
  have hM := AC_M hDj hM hk1
  have hO := AC_O hDj hO hk1
  clear hk1 hz1 hS
  have hS := hS2
  refine lv_aload_n hx hb dL_law_502 rfl (lv_at hl 2 rfl) ?_
  refine lv_aload_n hx hb dL_law_503 rfl (lv_at hl 0 rfl) ?_
  refine lv_iload hx hb dL_law_504 (lv_at hl 4 rfl) ?_
  refine k_ic (x := 1) hx hb dL_law_506 (by decide) ?_
  refine k_iadd hx hb dL_law_507 ?_
  refine k_sld hx hb hX hbl hbA hS (by omega) hL dL_law_508 ?_
  refine kV_i (r := nI (if 1 ≤ xs (i + 1) ∧ xs (i + 1) ≤ nI (t 8 0 0) then 1 else 0)) (w2 := wM g am (w3 t 9 0 0 0)) (As := [.int (xs (i + 1))]) (b := am 0) (rest := [.int (nI (if 1 ≤ xs (i + 1) ∧ xs (i + 1) ≤ nI (st 4 0 0) then 1 else 0))]) (A1 := AM am) hfx (c_X4_replied l (n := n) (AM_Ap hDj)) (cwV 1 hts gL_law_X4_replied rfl rfl rfl (by decide +kernel) ⟨by decide, by decide⟩) (va_recv hC.1 hM (ci := 4) rfl wM_obj) hC hM hS (AM_in hDj) rfl hl.1 rfl (Nat.le_of_ble_eq_true rfl) dL_law_509 ⟨by show cells + 0 + 0 ≤ 617831; omega, by show slots + 0 + 0 ≤ 7242576; omega⟩ (fun H2 locs2 hM hS3 hz2 hk2 => ?_)
  have hP := AM_C hDj hP hk2
  have hO := AM_O hDj hO hk2
  have fin : W p l e room_1 s m #[Value.ref b] below meth c H2 locs2 (cells + 0 + 0) (slots + 0 + 0) Q (F0 m 820 ls []) := by
    refine W.widen (k := cells + 1) (n := slots + 6) (by omega) (by omega) ?_
    exact kk (st) (w3 t 9 0 0 0) f H2 locs2 ls ⟨hR.t9 0, hP, hM, hO, hS3, hl⟩
  exact lv_icmp_eq (tgt := 820) hx hb dL_law_512 (by decide) (fun _ => fin) (fun h => absurd hans h)
set_option maxHeartbeats 4000000 in
set_option maxRecDepth 100000 in
theorem law_head {p : Program} {l : Launch} {e : Env} {s : State} {m : MethodId} {below : List Frame} {meth : Method} {c : Code} {b L : Nat} {xs : Nat → Int32} {g : GG} {sa a am : Nat → Nat} {o n : Nat} (C0 : LC p l s m c b L xs g sa a am o n) {i : Nat} {st t : CS} {f : Nat → Int64} {H : Heap} {locs : List Loc} {ls : Array Slot} (I0 : LI s b g a am o n i st t f H locs ls) (hi : i + 3 ≤ L) {cells slots : Nat} (hcl : cells + 1 ≤ 617831 ∧ slots + 6 ≤ 7242576) {Q : State → Prop}
    (kk : ∀ (st' t' : CS) (f' : Nat → Int64) (H' : Heap) (locs' : List Loc) (ls' : Array Slot), LI s b g a am o n i st' t' f' H' locs' ls' → W p l e room_1 s m #[Value.ref b] below meth c H' locs' (cells + 1) (slots + 6) Q (F0 m 820 ls' [])) : W p l e room_1 s m #[Value.ref b] below meth c H locs cells slots Q (F0 m 517 ls []) := by
  obtain ⟨hx, hb, hml, hown, hts, hX, hbl, hL, hlt, hC, hT0, hN, hDj⟩ := C0
  obtain ⟨hR, hP, hM, hO, hS, hl⟩ := I0
  have hbA : ¬ A0 s b := Nat.not_le.mpr hbl
  have hfx : CallFix p m c cL_law 9 s #[Value.ref b] wsL_law RL := ⟨hx, hb, hml, hown, hts⟩
  have hl1 := hR.1.len
  have hans : nI (st 0 0 0) = nI (t 0 0 0) := by rw [hR.2.2.2.1 0 (by omega)]
  have n6 := hR.2.1.2.1.1
  refine lv_aload_n hx hb dL_law_517 rfl (lv_at hl 1 rfl) ?_
  refine kV_i (r := nI (st 0 0 0)) (w2 := wC g a n (st)) (As := []) (b := a 0) (rest := []) (A1 := AC a n) hfx (c_X3_head l (AC_Ap hDj) n6 (by omega)) (cwV 0 hts gL_law_X3_head rfl rfl rfl (by decide +kernel) ⟨by decide, by decide⟩) (va_recv hC.1 hP (ci := 3) rfl wC_obj) hC hP hS (AC_in hDj) rfl hl.1 rfl (Nat.le_of_ble_eq_true rfl) dL_law_518 ⟨by show cells + 0 ≤ 617831; omega, by show slots + 0 ≤ 7242576; omega⟩ (fun H1 locs1 hP hS2 hz1 hk1 => ?_)
  have hM := AC_M hDj hM hk1
  have hO := AC_O hDj hO hk1
  clear hk1 hz1 hS
  have hS := hS2
  refine lv_aload_n hx hb dL_law_521 rfl (lv_at hl 2 rfl) ?_
  refine kV_i (r := nI (t 0 0 0)) (w2 := wM g am (w3 t 9 0 0 0)) (As := []) (b := am 0) (rest := [.int (nI (st 0 0 0))]) (A1 := AM am) hfx (c_X4_head l (n := n) (AM_Ap hDj)) (cwV 0 hts gL_law_X4_head rfl rfl rfl (by decide +kernel) ⟨by decide, by decide⟩) (va_recv hC.1 hM (ci := 4) rfl wM_obj) hC hM hS (AM_in hDj) rfl hl.1 rfl (Nat.le_of_ble_eq_true rfl) dL_law_522 ⟨by show cells + 0 + 0 ≤ 617831; omega, by show slots + 0 + 0 ≤ 7242576; omega⟩ (fun H2 locs2 hM hS3 hz2 hk2 => ?_)
  have hP := AM_C hDj hP hk2
  have hO := AM_O hDj hO hk2
  have fin : W p l e room_1 s m #[Value.ref b] below meth c H2 locs2 (cells + 0 + 0) (slots + 0 + 0) Q (F0 m 820 ls []) := by
    refine W.widen (k := cells + 1) (n := slots + 6) (by omega) (by omega) ?_
    exact kk (st) (w3 t 9 0 0 0) f H2 locs2 ls ⟨hR.t9 0, hP, hM, hO, hS3, hl⟩
  exact lv_icmp_eq (tgt := 820) hx hb dL_law_525 (by decide) (fun _ => fin) (fun h => absurd hans h)
set_option maxHeartbeats 4000000 in
set_option maxRecDepth 100000 in
theorem law_tail {p : Program} {l : Launch} {e : Env} {s : State} {m : MethodId} {below : List Frame} {meth : Method} {c : Code} {b L : Nat} {xs : Nat → Int32} {g : GG} {sa a am : Nat → Nat} {o n : Nat} (C0 : LC p l s m c b L xs g sa a am o n) {i : Nat} {st t : CS} {f : Nat → Int64} {H : Heap} {locs : List Loc} {ls : Array Slot} (I0 : LI s b g a am o n i st t f H locs ls) (hi : i + 3 ≤ L) {cells slots : Nat} (hcl : cells + 1 ≤ 617831 ∧ slots + 6 ≤ 7242576) {Q : State → Prop}
    (kk : ∀ (st' t' : CS) (f' : Nat → Int64) (H' : Heap) (locs' : List Loc) (ls' : Array Slot), LI s b g a am o n i st' t' f' H' locs' ls' → W p l e room_1 s m #[Value.ref b] below meth c H' locs' (cells + 1) (slots + 6) Q (F0 m 820 ls' [])) : W p l e room_1 s m #[Value.ref b] below meth c H locs cells slots Q (F0 m 530 ls []) := by
  obtain ⟨hx, hb, hml, hown, hts, hX, hbl, hL, hlt, hC, hT0, hN, hDj⟩ := C0
  obtain ⟨hR, hP, hM, hO, hS, hl⟩ := I0
  have hbA : ¬ A0 s b := Nat.not_le.mpr hbl
  have hfx : CallFix p m c cL_law 9 s #[Value.ref b] wsL_law RL := ⟨hx, hb, hml, hown, hts⟩
  have hl1 := hR.1.len
  have hans : nI (st 0 0 (st 1 0 0 - 1)) = nI (t 0 0 (t 1 0 0 - 1)) := by rw [hR.2.2.1, hR.2.2.2.1 _ (by omega)]
  have n6 := hR.2.1.2.1.1
  refine lv_aload_n hx hb dL_law_530 rfl (lv_at hl 1 rfl) ?_
  refine kV_i (r := nI (st 0 0 (st 1 0 0 - 1))) (w2 := wC g a n (st)) (As := []) (b := a 0) (rest := []) (A1 := AC a n) hfx (c_X3_tail l (AC_Ap hDj) n6 rfl hl1) (cwV 0 hts gL_law_X3_tail rfl rfl rfl (by decide +kernel) ⟨by decide, by decide⟩) (va_recv hC.1 hP (ci := 3) rfl wC_obj) hC hP hS (AC_in hDj) rfl hl.1 rfl (Nat.le_of_ble_eq_true rfl) dL_law_531 ⟨by show cells + 0 ≤ 617831; omega, by show slots + 0 ≤ 7242576; omega⟩ (fun H1 locs1 hP hS2 hz1 hk1 => ?_)
  have hM := AC_M hDj hM hk1
  have hO := AC_O hDj hO hk1
  clear hk1 hz1 hS
  have hS := hS2
  refine lv_aload_n hx hb dL_law_534 rfl (lv_at hl 2 rfl) ?_
  refine kV_i (r := nI (t 0 0 (t 1 0 0 - 1))) (w2 := wM g am (w3 t 9 0 0 0)) (As := []) (b := am 0) (rest := [.int (nI (st 0 0 (st 1 0 0 - 1)))]) (A1 := AM am) hfx (c_X4_tail l (AM_Ap hDj) hR.2.1) (cwV 0 hts gL_law_X4_tail rfl rfl rfl (by decide +kernel) ⟨by decide, by decide⟩) (va_recv hC.1 hM (ci := 4) rfl wM_obj) hC hM hS (AM_in hDj) rfl hl.1 rfl (Nat.le_of_ble_eq_true rfl) dL_law_535 ⟨by show cells + 0 + 0 ≤ 617831; omega, by show slots + 0 + 0 ≤ 7242576; omega⟩ (fun H2 locs2 hM hS3 hz2 hk2 => ?_)
  have hP := AM_C hDj hP hk2
  have hO := AM_O hDj hO hk2
  have fin : W p l e room_1 s m #[Value.ref b] below meth c H2 locs2 (cells + 0 + 0) (slots + 0 + 0) Q (F0 m 820 ls []) := by
    refine W.widen (k := cells + 1) (n := slots + 6) (by omega) (by omega) ?_
    exact kk (st) (w3 t 9 0 0 0) f H2 locs2 ls ⟨hR.t9 0, hP, hM, hO, hS3, hl⟩
  exact lv_icmp_eq (tgt := 820) hx hb dL_law_538 (by decide) (fun _ => fin) (fun h => absurd hans h)
set_option maxHeartbeats 4000000 in
set_option maxRecDepth 100000 in
theorem law_lag {p : Program} {l : Launch} {e : Env} {s : State} {m : MethodId} {below : List Frame} {meth : Method} {c : Code} {b L : Nat} {xs : Nat → Int32} {g : GG} {sa a am : Nat → Nat} {o n : Nat} (C0 : LC p l s m c b L xs g sa a am o n) {i : Nat} {st t : CS} {f : Nat → Int64} {H : Heap} {locs : List Loc} {ls : Array Slot} (I0 : LI s b g a am o n i st t f H locs ls) (hi : i + 3 ≤ L) {cells slots : Nat} (hcl : cells + 1 ≤ 617831 ∧ slots + 6 ≤ 7242576) {Q : State → Prop}
    (kk : ∀ (st' t' : CS) (f' : Nat → Int64) (H' : Heap) (locs' : List Loc) (ls' : Array Slot), LI s b g a am o n i st' t' f' H' locs' ls' → W p l e room_1 s m #[Value.ref b] below meth c H' locs' (cells + 1) (slots + 6) Q (F0 m 820 ls' [])) : W p l e room_1 s m #[Value.ref b] below meth c H locs cells slots Q (F0 m 779 ls []) := by
  obtain ⟨hx, hb, hml, hown, hts, hX, hbl, hL, hlt, hC, hT0, hN, hDj⟩ := C0
  obtain ⟨hR, hP, hM, hO, hS, hl⟩ := I0
  have hbA : ¬ A0 s b := Nat.not_le.mpr hbl
  have hfx : CallFix p m c cL_law 9 s #[Value.ref b] wsL_law RL := ⟨hx, hb, hml, hown, hts⟩
  obtain ⟨r1, r2, r3, r4⟩ := R_lag hR
  have hl1 := hR.1.len
  have hmo := hR.mono
  have hans : quo (lagM t (t 1 0 0)).2.2 (lagM t (t 1 0 0)).1 = quo (lagF st (st 1 0 0)).2.2 (lagF st (st 1 0 0)).1 := by rw [r1]
  have hcmp := (quo_all _ r4 _ r3 r2).2
  have n6 := hR.2.1.2.1.1
  refine lv_aload_n hx hb dL_law_779 rfl (lv_at hl 1 rfl) ?_
  refine kV_d (r := quo (lagF st (st 1 0 0)).2.2 (lagF st (st 1 0 0)).1) (w2 := wC g a n (st)) (As := []) (b := a 0) (rest := []) (A1 := AC a n) hfx (c_X3_lag l (AC_Ap hDj) n6 hR.1 (fun j k h1 h2 => (hmo j k h1 h2).1) r2) (cwV 0 hts gL_law_X3_lag rfl rfl rfl (by decide +kernel) ⟨by decide, by decide⟩) (va_recv hC.1 hP (ci := 3) rfl wC_obj) hC hP hS (AC_in hDj) rfl hl.1 rfl (Nat.le_of_ble_eq_true rfl) dL_law_780 ⟨by show cells + 0 ≤ 617831; omega, by show slots + 0 ≤ 7242576; omega⟩ (fun H1 locs1 hP hS2 hz1 hk1 => ?_)
  have hM := AC_M hDj hM hk1
  have hO := AC_O hDj hO hk1
  clear hk1 hz1 hS
  have hS := hS2
  refine lv_dstore (lv' := [(5, .double (quo (lagF st (st 1 0 0)).2.2 (lagF st (st 1 0 0)).1)), (0, .ref b), (1, .ref (a 0)), (2, .ref (am 0)), (3, .ref o), (4, .int (nI i))]) hx hb dL_law_783 hl (by decide) rfl (fun ls hl => ?_)
  refine lv_aload_n hx hb dL_law_785 rfl (lv_at hl 3 rfl) ?_
  refine kV_d (r := quo (lagM t (t 1 0 0)).2.2 (lagM t (t 1 0 0)).1) (w2 := wM g am (w3 t 9 0 0 0)) (As := []) (b := am 0) (rest := []) (A1 := AM am) hfx (c_X4_lag l (AM_Ap hDj) hR.2.1 (fun j k h1 h2 => by rw [hR.2.2.1] at h2; rw [hR.2.2.2.1 j (by omega), hR.2.2.2.1 k h2, (hR.2.2.2.2.2.1 _ (hR.1.ch j (by omega))).2.1, (hR.2.2.2.2.2.1 _ (hR.1.ch k (by omega))).2.1]; exact (hmo j k h1 h2).1) (by rw [r1]; exact r2)) (cwV 0 hts gL_law_X4_lag rfl rfl rfl (by decide +kernel) ⟨by decide, by decide⟩) (va_recv hC.1 hM (ci := 4) rfl wM_obj) hC hM hS (AM_in hDj) rfl hl.1 rfl (Nat.le_of_ble_eq_true rfl) dL_law_786 ⟨by show cells + 0 + 0 ≤ 617831; omega, by show slots + 0 + 0 ≤ 7242576; omega⟩ (fun H2 locs2 hM hS3 hz2 hk2 => ?_)
  have hP := AM_C hDj hP hk2
  have hO := AM_O hDj hO hk2
  refine lv_dstore (lv' := [(7, .double (quo (lagM t (t 1 0 0)).2.2 (lagM t (t 1 0 0)).1)), (5, .double (quo (lagF st (st 1 0 0)).2.2 (lagF st (st 1 0 0)).1)), (0, .ref b), (1, .ref (a 0)), (2, .ref (am 0)), (3, .ref o), (4, .int (nI i))]) hx hb dL_law_789 hl (by decide) rfl (fun ls hl => ?_)
  refine lv_dload hx hb dL_law_791 (lv_at hl 1 rfl) ?_
  refine lv_dload hx hb dL_law_793 (lv_at hl 0 rfl) ?_
  refine lv_dcmp hx hb dL_law_795 ?_
  rw [hans, hcmp]
  refine lv_if_eq (tgt := 817) hx hb dL_law_796 (by decide) (fun _ => ?_) (fun h => absurd rfl h)
  refine lv_goto (tgt := 820) hx hb dL_law_817 (by decide) ?_
  refine W.widen (k := cells + 1) (n := slots + 6) (by omega) (by omega) ?_
  exact kk (st) (w3 t 9 0 0 0) f H2 locs2 ls ⟨hR.t9 0, hP, hM, hO, hS3, lv_sub hl [2, 3, 4, 5, 6] rfl⟩
