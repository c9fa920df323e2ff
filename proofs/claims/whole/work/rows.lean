section
-- ===== PART A: goes FIRST, ahead of the names: the tables' words, and 'selects' of the private methods out of them =====
/-- a private method of a class that the tables say can be made, by its rows of tables_1 -/
def lw_okq (q : MethodName × Nat) : Prop := (q.1.cls ≠ "java/lang/invoke/MethodHandle" ∧ q.1.cls ≠ "java/lang/invoke/VarHandle") ∧ Cond.instantiable q.1.cls q.2 ∈ tables_1 ∧ Cond.privateMethod q.1 ∈ tables_1 ∧ Cond.instanceMethod q.1 ∈ tables_1
theorem lw_p0 : lw_okq (⟨"SplicedChain", "takeOutFailed", "()V"⟩, 6) := ⟨⟨by decide +kernel, by decide +kernel⟩, List.mem_of_getElem? (i := 14) (by decide +kernel), List.mem_of_getElem? (i := 114) (by decide +kernel), List.mem_of_getElem? (i := 115) (by decide +kernel)⟩
theorem lw_p1 : lw_okq (⟨"SplicedChain", "nodeAt", "(I)LSplicedChain$Node;"⟩, 6) := ⟨⟨by decide +kernel, by decide +kernel⟩, List.mem_of_getElem? (i := 14) (by decide +kernel), List.mem_of_getElem? (i := 118) (by decide +kernel), List.mem_of_getElem? (i := 119) (by decide +kernel)⟩
theorem lw_p2 : lw_okq (⟨"SplicedChain", "acknowledgeAllSentAtTail", "()V"⟩, 6) := ⟨⟨by decide +kernel, by decide +kernel⟩, List.mem_of_getElem? (i := 14) (by decide +kernel), List.mem_of_getElem? (i := 122) (by decide +kernel), List.mem_of_getElem? (i := 123) (by decide +kernel)⟩
theorem lw_p3 : lw_okq (⟨"SplicedChain", "acknowledgeAt", "(II)V"⟩, 6) := ⟨⟨by decide +kernel, by decide +kernel⟩, List.mem_of_getElem? (i := 14) (by decide +kernel), List.mem_of_getElem? (i := 126) (by decide +kernel), List.mem_of_getElem? (i := 127) (by decide +kernel)⟩
theorem lw_p4 : lw_okq (⟨"SplicedChain", "isTailAt", "(I)Z"⟩, 6) := ⟨⟨by decide +kernel, by decide +kernel⟩, List.mem_of_getElem? (i := 14) (by decide +kernel), List.mem_of_getElem? (i := 130) (by decide +kernel), List.mem_of_getElem? (i := 131) (by decide +kernel)⟩
theorem lw_p5 : lw_okq (⟨"java/lang/Throwable", "fillInStackTrace", "(I)Ljava/lang/Throwable;"⟩, 6) := ⟨⟨by decide +kernel, by decide +kernel⟩, List.mem_of_getElem? (i := 208) (by decide +kernel), List.mem_of_getElem? (i := 206) (by decide +kernel), List.mem_of_getElem? (i := 207) (by decide +kernel)⟩
theorem lw_p6 : lw_okq (⟨"SplicedChain", "applyAt", "(II)V"⟩, 6) := ⟨⟨by decide +kernel, by decide +kernel⟩, List.mem_of_getElem? (i := 14) (by decide +kernel), List.mem_of_getElem? (i := 254) (by decide +kernel), List.mem_of_getElem? (i := 255) (by decide +kernel)⟩
theorem lw_p7 : lw_okq (⟨"SplicedChain", "isNode", "(I)Z"⟩, 6) := ⟨⟨by decide +kernel, by decide +kernel⟩, List.mem_of_getElem? (i := 14) (by decide +kernel), List.mem_of_getElem? (i := 278) (by decide +kernel), List.mem_of_getElem? (i := 279) (by decide +kernel)⟩
theorem lw_p8 : lw_okq (⟨"SplicedChain", "positionOf", "(I)I"⟩, 6) := ⟨⟨by decide +kernel, by decide +kernel⟩, List.mem_of_getElem? (i := 14) (by decide +kernel), List.mem_of_getElem? (i := 284) (by decide +kernel), List.mem_of_getElem? (i := 285) (by decide +kernel)⟩
theorem lw_p9 : lw_okq (⟨"SplicedChain", "updatesTowards", "(I)I"⟩, 6) := ⟨⟨by decide +kernel, by decide +kernel⟩, List.mem_of_getElem? (i := 14) (by decide +kernel), List.mem_of_getElem? (i := 288) (by decide +kernel), List.mem_of_getElem? (i := 289) (by decide +kernel)⟩
theorem lw_p10 : lw_okq (⟨"SplicedChain", "acknowledgementsTowards", "(I)I"⟩, 6) := ⟨⟨by decide +kernel, by decide +kernel⟩, List.mem_of_getElem? (i := 14) (by decide +kernel), List.mem_of_getElem? (i := 319) (by decide +kernel), List.mem_of_getElem? (i := 320) (by decide +kernel)⟩
theorem lw_p11 : lw_okq (⟨"SplicedChain", "countStanding", "()I"⟩, 6) := ⟨⟨by decide +kernel, by decide +kernel⟩, List.mem_of_getElem? (i := 14) (by decide +kernel), List.mem_of_getElem? (i := 331) (by decide +kernel), List.mem_of_getElem? (i := 332) (by decide +kernel)⟩
theorem lw_p12 : lw_okq (⟨"SplicedChain", "closeLinksAt", "(I)V"⟩, 6) := ⟨⟨by decide +kernel, by decide +kernel⟩, List.mem_of_getElem? (i := 14) (by decide +kernel), List.mem_of_getElem? (i := 335) (by decide +kernel), List.mem_of_getElem? (i := 336) (by decide +kernel)⟩
theorem lw_p13 : lw_okq (⟨"SplicedChain", "canResyncAt", "(I)Z"⟩, 6) := ⟨⟨by decide +kernel, by decide +kernel⟩, List.mem_of_getElem? (i := 14) (by decide +kernel), List.mem_of_getElem? (i := 354) (by decide +kernel), List.mem_of_getElem? (i := 355) (by decide +kernel)⟩
theorem lw_p14 : lw_okq (⟨"SplicedChainModel", "first", "()I"⟩, 11) := ⟨⟨by decide +kernel, by decide +kernel⟩, List.mem_of_getElem? (i := 391) (by decide +kernel), List.mem_of_getElem? (i := 440) (by decide +kernel), List.mem_of_getElem? (i := 441) (by decide +kernel)⟩
theorem lw_p15 : lw_okq (⟨"SplicedChainModel", "throwsIt", "(I)Z"⟩, 11) := ⟨⟨by decide +kernel, by decide +kernel⟩, List.mem_of_getElem? (i := 391) (by decide +kernel), List.mem_of_getElem? (i := 444) (by decide +kernel), List.mem_of_getElem? (i := 445) (by decide +kernel)⟩
def lw_privs_1 : List (MethodName × Nat) := [(⟨"SplicedChain", "takeOutFailed", "()V"⟩, 6), (⟨"SplicedChain", "nodeAt", "(I)LSplicedChain$Node;"⟩, 6), (⟨"SplicedChain", "acknowledgeAllSentAtTail", "()V"⟩, 6), (⟨"SplicedChain", "acknowledgeAt", "(II)V"⟩, 6), (⟨"SplicedChain", "isTailAt", "(I)Z"⟩, 6), (⟨"java/lang/Throwable", "fillInStackTrace", "(I)Ljava/lang/Throwable;"⟩, 6), (⟨"SplicedChain", "applyAt", "(II)V"⟩, 6), (⟨"SplicedChain", "isNode", "(I)Z"⟩, 6), (⟨"SplicedChain", "positionOf", "(I)I"⟩, 6), (⟨"SplicedChain", "updatesTowards", "(I)I"⟩, 6), (⟨"SplicedChain", "acknowledgementsTowards", "(I)I"⟩, 6), (⟨"SplicedChain", "countStanding", "()I"⟩, 6), (⟨"SplicedChain", "closeLinksAt", "(I)V"⟩, 6), (⟨"SplicedChain", "canResyncAt", "(I)Z"⟩, 6), (⟨"SplicedChainModel", "first", "()I"⟩, 11), (⟨"SplicedChainModel", "throwsIt", "(I)Z"⟩, 11)]
theorem lw_r1 : ∀ q ∈ lw_privs_1, lw_okq q := List.forall_mem_cons.mpr ⟨lw_p0, List.forall_mem_cons.mpr ⟨lw_p1, List.forall_mem_cons.mpr ⟨lw_p2, List.forall_mem_cons.mpr ⟨lw_p3, List.forall_mem_cons.mpr ⟨lw_p4, List.forall_mem_cons.mpr ⟨lw_p5, List.forall_mem_cons.mpr ⟨lw_p6, List.forall_mem_cons.mpr ⟨lw_p7, List.forall_mem_cons.mpr ⟨lw_p8, List.forall_mem_cons.mpr ⟨lw_p9, List.forall_mem_cons.mpr ⟨lw_p10, List.forall_mem_cons.mpr ⟨lw_p11, List.forall_mem_cons.mpr ⟨lw_p12, List.forall_mem_cons.mpr ⟨lw_p13, List.forall_mem_cons.mpr ⟨lw_p14, List.forall_mem_cons.mpr ⟨lw_p15, fun _ h => absurd h List.not_mem_nil⟩⟩⟩⟩⟩⟩⟩⟩⟩⟩⟩⟩⟩⟩⟩⟩
theorem lw_p16 : lw_okq (⟨"SplicedChainModel", "apply", "(III)V"⟩, 11) := ⟨⟨by decide +kernel, by decide +kernel⟩, List.mem_of_getElem? (i := 391) (by decide +kernel), List.mem_of_getElem? (i := 448) (by decide +kernel), List.mem_of_getElem? (i := 449) (by decide +kernel)⟩
theorem lw_p17 : lw_okq (⟨"SplicedChainModel", "last", "()I"⟩, 11) := ⟨⟨by decide +kernel, by decide +kernel⟩, List.mem_of_getElem? (i := 391) (by decide +kernel), List.mem_of_getElem? (i := 452) (by decide +kernel), List.mem_of_getElem? (i := 453) (by decide +kernel)⟩
theorem lw_p18 : lw_okq (⟨"SplicedChainModel", "valueOf", "(II)I"⟩, 11) := ⟨⟨by decide +kernel, by decide +kernel⟩, List.mem_of_getElem? (i := 391) (by decide +kernel), List.mem_of_getElem? (i := 460) (by decide +kernel), List.mem_of_getElem? (i := 461) (by decide +kernel)⟩
theorem lw_p19 : lw_okq (⟨"SplicedChainModel", "isNode", "(I)Z"⟩, 11) := ⟨⟨by decide +kernel, by decide +kernel⟩, List.mem_of_getElem? (i := 391) (by decide +kernel), List.mem_of_getElem? (i := 468) (by decide +kernel), List.mem_of_getElem? (i := 469) (by decide +kernel)⟩
theorem lw_p20 : lw_okq (⟨"SplicedChainModel", "updatesTo", "(I)I"⟩, 11) := ⟨⟨by decide +kernel, by decide +kernel⟩, List.mem_of_getElem? (i := 391) (by decide +kernel), List.mem_of_getElem? (i := 472) (by decide +kernel), List.mem_of_getElem? (i := 473) (by decide +kernel)⟩
theorem lw_p21 : lw_okq (⟨"SplicedChainModel", "placeOf", "(I)I"⟩, 11) := ⟨⟨by decide +kernel, by decide +kernel⟩, List.mem_of_getElem? (i := 391) (by decide +kernel), List.mem_of_getElem? (i := 476) (by decide +kernel), List.mem_of_getElem? (i := 477) (by decide +kernel)⟩
theorem lw_p22 : lw_okq (⟨"SplicedChainModel", "acksTo", "(I)I"⟩, 11) := ⟨⟨by decide +kernel, by decide +kernel⟩, List.mem_of_getElem? (i := 391) (by decide +kernel), List.mem_of_getElem? (i := 484) (by decide +kernel), List.mem_of_getElem? (i := 485) (by decide +kernel)⟩
def lw_privs_2 : List (MethodName × Nat) := [(⟨"SplicedChainModel", "apply", "(III)V"⟩, 11), (⟨"SplicedChainModel", "last", "()I"⟩, 11), (⟨"SplicedChainModel", "valueOf", "(II)I"⟩, 11), (⟨"SplicedChainModel", "isNode", "(I)Z"⟩, 11), (⟨"SplicedChainModel", "updatesTo", "(I)I"⟩, 11), (⟨"SplicedChainModel", "placeOf", "(I)I"⟩, 11), (⟨"SplicedChainModel", "acksTo", "(I)I"⟩, 11)]
theorem lw_r2 : ∀ q ∈ lw_privs_2, lw_okq q := List.forall_mem_cons.mpr ⟨lw_p16, List.forall_mem_cons.mpr ⟨lw_p17, List.forall_mem_cons.mpr ⟨lw_p18, List.forall_mem_cons.mpr ⟨lw_p19, List.forall_mem_cons.mpr ⟨lw_p20, List.forall_mem_cons.mpr ⟨lw_p21, List.forall_mem_cons.mpr ⟨lw_p22, fun _ h => absurd h List.not_mem_nil⟩⟩⟩⟩⟩⟩⟩
def lw_privs : List (MethodName × Nat) := lw_privs_1 ++ (lw_privs_2)
def lw_tbl : List Cond := k2_sels lw_privs ++ tables_1
theorem lw_privs_ok : ∀ q ∈ lw_privs, lw_okq q := by
  show ∀ q ∈ lw_privs_1 ++ (lw_privs_2), lw_okq q
  exact List.forall_mem_append.mpr ⟨lw_r1, lw_r2⟩
/-- the streams that the claim lets the run draw from -/
abbrev lw_cs : List Choice := [Jvm.Choice.named "NaN.bits"]
theorem lw_bits : nanBits ∈ lw_cs := by first | decide | exact List.mem_cons_self | simp [lw_cs, nanBits]
-- ===== end of PART A; then your names; then what follows =====
end
section
/-! ===== BEGIN words of one list among another's, by their places ===== -/
theorem goodIn_r {big : List Cond} (ws : List Cond) (ps : List Nat) (hp : ws = ps.filterMap (fun i => big[i]?)) (h : ws.all goodWord = true) : GoodIn big ws := by
  intro w hw
  have h1 := List.all_eq_true.mp h w hw
  rw [hp] at hw
  obtain ⟨i, -, hi⟩ := List.mem_filterMap.mp hw
  have hm : w ∈ big := by first | exact List.mem_of_getElem? hi | exact List.getElem?_mem hi
  exact ⟨hm, good_of_word h1⟩
theorem goodIn_app {big a b : List Cond} (ha : GoodIn big a) (hb : GoodIn big b) : GoodIn big (a ++ b) := fun w h => (List.mem_append.mp h).elim (ha w) (hb w)
theorem goodIn_ca {big a b : List Cond} {c : Cond} (ha : GoodIn big (c :: a)) (hb : GoodIn big b) : GoodIn big (c :: (a ++ b)) := fun w h => (List.mem_cons.mp h).elim (fun e => ha w (List.mem_cons.mpr (Or.inl e))) (fun h => (List.mem_append.mp h).elim (fun h => ha w (List.mem_cons.mpr (Or.inr h))) (hb w))
theorem goodIn_sub {big ws : List Cond} (hm : ∀ w ∈ ws, w ∈ big) (h : ws.all goodWord = true) : GoodIn big ws := fun w hw => ⟨hm w hw, good_of_word (List.all_eq_true.mp h w hw)⟩
/-! ===== END ===== -/

/-! ===== BEGIN exceptions that leave a method, and their catching by the caller (launches without stack traces) ===== -/
section VXA
/-! The laws vx_back, vx_callV, vx_callS, vx_callSW, vx_throw0, vx_throwS follow proofs of the library, with one case more: JvmDerived/Free/Laws.lean (Back.of_free), Shelf42/LK1.lean (callV, callS), Shelf/KitTraced.lean (throwNew0V, throwNewS). -/
/-- where a method has thrown q: the class by its name, the cell, what was written, the world -/
def vx_T (XC : String → State → State → Prop) (st : State) (q : Addr) (t : State) (mc ms : Nat) (free : Addr → Prop) : Prop :=
  ∃ (E : String) (ce : Cell) (L : List Loc), XC E st t ∧ t.heap[q]? = some ce ∧ ce.vm = .none ∧ st.vm.findClass E = some ce.cls ∧ st.WarmedH t.vm ∧ st.sameButNew ({ t with vm := st.vm } : State) L mc ms ∧ ∀ z ∈ L, free z.base
def vx_Q (Qc : Array Value → State → Outcome → State → Prop) (XC : String → State → State → Prop) (mc ms : Nat) (free : Addr → Prop) : Array Value → State → Outcome → State → Prop := fun a st o t =>
  (Qc a st o t ∧ ∃ L, FrameEnd st o t L mc ms ∧ ∀ q ∈ L, free q.base) ∨ ∃ q, o = .threw q ∧ vx_T XC st q t mc ms free
/-- a callee that returns or throws -/
def vx_Met (l : Launch) (y : MethodName) (ws : List Cond) (rm : Room) (Pc : Array Value → State → Prop) (Qc : Array Value → State → Outcome → State → Prop) (XC : String → State → State → Prop) (mc ms : Nat) (free : Addr → Prop) : Prop :=
  MetFree l y (headSpec ws rm) Pc (fun _ _ _ _ _ => True) (vx_Q Qc XC mc ms free)
def vx_Post (XC : String → State → State → Prop) (mc ms : Nat) (free : Addr → Prop) : Pt → Array Value → Addr → Pt → Prop := fun A a q B =>
  ∃ (g : JFrame) (mk : MethodId) (t : State) (L : List Loc) (E : String) (ce : Cell), B.U.heap = t.heap ∧ B.U.vm = t.vm ∧ XC E (A.U.calling g mk a) t ∧ t.heap[q]? = some ce ∧ ce.vm = .none ∧ A.U.vm.findClass E = some ce.cls ∧ B.locs = A.locs ++ L ∧ (∀ z ∈ L, free z.base) ∧ B.cells = A.cells + mc ∧ B.slots = A.slots + ms
def vx_Back (l : Launch) (R : Room) (p : Program) (e : Env) (below : List Frame) (s : State) (sargs : Array Value) (y : MethodName) (len W9 : Nat)
    (Pre : Pt → Array Value → Prop) (Post : Pt → Array Value → Option Value → Pt → Prop) (PostX : Pt → Array Value → Addr → Pt → Prop) : Prop :=
  ∀ (m : MethodId) (meth : Method) (c : Code) (A : Pt) (g : JFrame) (ig : Instr) (mk : MethodId) (a : Array Value),
    Stand p l e R s m sargs below meth c A.U A.locs A.cells A.slots → g.method = m → g.locals.size = c.maxLocals → decode c.code g.pc = .ok (ig, len) →
    2 * g.monitorRoom + (g.stack.map fun v => v.category).sum ≤ W9 → A.U.methodNamed? y = some mk → Pre A a →
    (∃ (v : Option Value) (B : Pt), Stand p l e R s m sargs below meth c B.U B.locs B.cells B.slots ∧ Post A a v B ∧
      Steps p.tables e below (doInvoke e (A.U.setTop g) [] mk a).1 (B.U.setTop { g with pc := g.pc + len, stack := v.toList ++ g.stack })) ∨
    (∃ (q : Addr) (B : Pt), Stand p l e R s m sargs below meth c B.U B.locs B.cells B.slots ∧ PostX A a q B ∧
      Steps p.tables e below (doInvoke e (A.U.setTop g) [] mk a).1 ((B.U.setTop g).pushFrame (.throwing q)))
section Payer
variable {l : Launch} {R : Room} {p : Program} {e : Env} {below : List Frame} {s : State} {sargs : Array Value} {y : MethodName} {len W9 : Nat}
theorem vx_back {ws : List Cond} {rm : Room} {Pc : Array Value → State → Prop} {Qc : Array Value → State → Outcome → State → Prop} {XC : String → State → State → Prop} {mc ms : Nat} {free : Addr → Prop} {bytes : ByteArray} {maxL : Nat} {ret : Option FieldType}
    (hM : vx_Met l y ws rm Pc Qc XC mc ms free) (hblind : FrameBlind Pc) (hrc : rm.cells = mc) (hrs : rm.slots = ms)
    (hframes : rm.frames + 1 ≤ R.frames) (hlocals : W9 + (maxL + 11) + rm.locals ≤ R.locals)
    (hws : ∀ w ∈ ws, ∀ a' U, s.WarmedH U.vm → w.before a' U = true) (hcode : Cond.code y bytes maxL ret ∈ ws) (hinit : ∀ a' U, s.WarmedH U.vm → (Cond.initialized y.cls).before a' U = true) :
    vx_Back l R p e below s sargs y len W9 (PreOf R mc ms Pc) (PostOf Qc mc ms free) (vx_Post XC mc ms free) := by
  intro m meth c A g ig mk a X hg hsize hdg hW hn hp
  have h1 : (headSpec ws rm).pre.before a A.U = true := atoms_intro fun w hw => hws w hw _ _ X.warmed
  have h2 : (Cond.code y bytes maxL ret).before a A.U = true := hws _ hcode _ _ X.warmed
  have h3 : (Cond.initialized y.cls).before a A.U = true := hinit _ _ X.warmed
  have h4 : A.cells + (headSpec ws rm).room.cells ≤ R.cells := by rw [show (headSpec ws rm).room.cells = mc from hrc]; exact hp.1
  have h5 : A.slots + (headSpec ws rm).room.slots ≤ R.slots := by rw [show (headSpec ws rm).room.slots = ms from hrs]; exact hp.2.1
  have hPc : Pc a (A.U.calling g mk a) := hblind _ _ _ _ hp.2.2
  obtain ⟨U, Ls, c0, s0⟩ := A
  dsimp only [Pt.U, Pt.locs, Pt.cells, Pt.slots] at h1 h2 h3 h4 h5 X hn hPc ⊢
  obtain ⟨methY, cY, hmY, hcY, -, hlY, -, -, -, -⟩ := Cond.code_spec hn h2
  obtain ⟨kY, hkY, -⟩ := className_of_methodNamed hn
  have hinitY : kY.init = .initialized := Cond.initialized_spec (findClass_of_methodNamed hn) hkY h3
  have h : At U g.method c below := by rw [hg]; exact X.here
  have hlocals9 : W9 + (maxL + 11) + (headSpec ws rm).room.locals ≤ R.locals := hlocals
  have happ : (headSpec ws rm).appliesLoose y e.platform (U.calling g mk a) = true :=
    Spec.appliesLoose_calling (g := g) h hdg hn hkY hinitY
      (X.room_calling (g := g) (R' := (headSpec ws rm).room) hsize hmY hcY hframes (by rw [hlY]; omega) h4 h5) h1
  obtain ⟨mid, hmid⟩ := h.above
  have hfr : (U.setTop g).frames = (.java g :: mid) ++ below := by rw [State.frames_setTop' g h.top, hmid]; rfl
  obtain ⟨o, s₂, hsteps, -, hend, hq⟩ := Steps.callFree hM p X.admits X.cas X.clock (acts := []) hfr happ hPc trivial
  have hq' : vx_Q Qc XC mc ms free a (U.calling g mk a) o s₂ := hq
  rw [State.frames_setTop' g h.top] at hend
  obtain ⟨g₀, hg0⟩ := Option.isSome_iff_exists.mp h.top
  obtain ⟨r, hr⟩ := State.topJava?_eq_some.mp hg0
  have hr' : (({ U with heap := s₂.heap, slotsUsed := s₂.slotsUsed } : State).setVm s₂.vm).frames = .java g₀ :: r := hr
  rcases hq' with ⟨hqc, L, hfe, hL⟩ | ⟨q, rfl, E, ce, L, hx, hce, hcv, hcl, hW₂, hsm, hL⟩
  · obtain ⟨⟨v, rfl⟩, hW₂, e2, q2, q3, q4, q5, q6⟩ := id hfe
    have e3 : s₂ = ({ (U.calling g mk a).setFrames s₂.frames with heap := s₂.heap, slotsUsed := s₂.slotsUsed } : State).setVm s₂.vm := by
      have : s₂ = ({ s₂ with vm := (U.calling g mk a).vm } : State).setVm s₂.vm := rfl
      rw [e2] at this
      exact this
    obtain ⟨c₂, i₂, len₂, hc₂, hd₂, hf₂⟩ := hend
    have hW' : U.WarmedH s₂.vm := hW₂
    have hcc : c₂ = c := by
      have h1 : s₂.code? g.method = U.code? g.method := by
        rw [State.code?_eq, State.code?_eq, hW'.alike.method?]
      exact Option.some.inj (hc₂.symm.trans (h1.trans h.code))
    subst hcc
    have hlen : len₂ = len := by rw [hdg] at hd₂; cases hd₂; rfl
    subst hlen
    have hs₂ : s₂ = (({ U with heap := s₂.heap, slotsUsed := s₂.slotsUsed } : State).setVm s₂.vm).setTop { g with pc := g.pc + len₂, stack := v.toList ++ g.stack } := by
      refine e3.trans ?_
      rw [hf₂, State.calling_eq h.top, State.setFrames_setFrames, State.setTop_of_frames _ hr', hr]
      rfl
    have hsame : U.sameButNew ({ U with heap := s₂.heap, slotsUsed := s₂.slotsUsed } : State) L mc ms := by
      refine ⟨?_, q2, q3, q4, q5, q6⟩
      obtain ⟨t, ht, -⟩ := State.frames_cons hr
      show ({ U with heap := s₂.heap, slotsUsed := s₂.slotsUsed } : State) = { U.setFrames U.frames with heap := s₂.heap, slotsUsed := s₂.slotsUsed }
      rw [State.setFrames_self ht]
    subst hg
    refine Or.inl ⟨v, ⟨(({ U with heap := s₂.heap, slotsUsed := s₂.slotsUsed } : State).setVm s₂.vm), Ls ++ L, c0 + mc, s0 + ms⟩,
      ⟨X.admits, X.cas, X.clock, X.frames, X.room, X.hears, X.method, X.code, (X.here.setHeapUsed s₂.heap s₂.slotsUsed).setVm hW'.alike, X.tail, State.WarmedH.trans X.warmed hW', X.limits, X.bytes, X.same.trans (hsame.setVm s.vm)⟩,
      ⟨g, mk, s₂, L, rfl, rfl, hqc, rfl, hL, rfl, rfl⟩, ?_⟩
    show Steps p.tables e below _ ((({ U with heap := s₂.heap, slotsUsed := s₂.slotsUsed } : State).setVm s₂.vm).setTop { g with pc := g.pc + len₂, stack := v.toList ++ g.stack })
    rw [← hs₂]
    exact hsteps
  · obtain ⟨e2, q2, q3, q4, q5, q6⟩ := id hsm
    have e3 : s₂ = ({ (U.calling g mk a).setFrames s₂.frames with heap := s₂.heap, slotsUsed := s₂.slotsUsed } : State).setVm s₂.vm := by
      have : s₂ = ({ s₂ with vm := (U.calling g mk a).vm } : State).setVm s₂.vm := rfl
      rw [e2] at this
      exact this
    have hf₂ : s₂.frames = .throwing q :: .java g :: U.frames.tail := hend
    have hW' : U.WarmedH s₂.vm := hW₂
    have hs₂ : s₂ = ((({ U with heap := s₂.heap, slotsUsed := s₂.slotsUsed } : State).setVm s₂.vm).setTop g).pushFrame (.throwing q) := by
      refine e3.trans ?_
      rw [hf₂, State.calling_eq h.top, State.setFrames_setFrames, State.pushFrame, State.frames_setTop _ hr', State.setTop_of_frames _ hr', State.setFrames_setFrames, hr]
      rfl
    have hsame : U.sameButNew ({ U with heap := s₂.heap, slotsUsed := s₂.slotsUsed } : State) L mc ms := by
      refine ⟨?_, q2, q3, q4, q5, q6⟩
      obtain ⟨t, ht, -⟩ := State.frames_cons hr
      show ({ U with heap := s₂.heap, slotsUsed := s₂.slotsUsed } : State) = { U.setFrames U.frames with heap := s₂.heap, slotsUsed := s₂.slotsUsed }
      rw [State.setFrames_self ht]
    subst hg
    refine Or.inr ⟨q, ⟨(({ U with heap := s₂.heap, slotsUsed := s₂.slotsUsed } : State).setVm s₂.vm), Ls ++ L, c0 + mc, s0 + ms⟩,
      ⟨X.admits, X.cas, X.clock, X.frames, X.room, X.hears, X.method, X.code, (X.here.setHeapUsed s₂.heap s₂.slotsUsed).setVm hW'.alike, X.tail, State.WarmedH.trans X.warmed hW', X.limits, X.bytes, X.same.trans (hsame.setVm s.vm)⟩,
      ⟨g, mk, s₂, L, E, ce, rfl, rfl, hx, hce, hcv, hcl, rfl, hL, rfl, rfl⟩, ?_⟩
    show Steps p.tables e below _ (((({ U with heap := s₂.heap, slotsUsed := s₂.slotsUsed } : State).setVm s₂.vm).setTop g).pushFrame (.throwing q))
    rw [← hs₂]
    exact hsteps
end Payer
section Calls
variable {p : Program} {l : Launch} {e : Env} {R : Room} {s : State} {m : MethodId} {args : Array Value} {below : List Frame} {meth : Method} {c : Code} {T : State} {locs : List Loc} {cells slots : Nat}
theorem vx_callV (X : Stand p l e R s m args below meth c T locs cells slots) (hexec : p.tables.exec = Jvm.exec) {own C : String} {index : Nat} {y : MethodName} {bytes : ByteArray} {maxL : Nat} {ret : Option FieldType}
    (hown : s.vm.findClass own = some m.cls) (hlink : (Cond.methodLink own index y).before args s = true) (hinst : (Cond.instanceMethod y).before args s = true) (hsel : (Cond.selects C y y).before args s = true)
    (hcode : (Cond.code y bytes maxL ret).before args s = true) (hy : y.cls ≠ "java/lang/invoke/MethodHandle" ∧ y.cls ≠ "java/lang/invoke/VarHandle")
    {W9 : Nat} {Pre : Pt → Array Value → Prop} {Post : Pt → Array Value → Option Value → Pt → Prop} {PostX : Pt → Array Value → Addr → Pt → Prop} (hK : vx_Back l R p e below s args y 3 W9 Pre Post PostX)
    {b : Addr} {cellB : Cell} (hcell : T.heap[b]? = some cellB) (hobj : cellB.vm.isStatics = false) (hcls : s.vm.findClass C = some cellB.cls)
    {g : JFrame} (hg : g.method = m) (hsize : g.locals.size = c.maxLocals) {argsL rest : List Value} (hlen : ∀ sig, parseMethodDescriptor y.desc = some sig → argsL.length = sig.parameters.length)
    (hstack : g.stack = argsL.reverse ++ .ref b :: rest) (hW : 2 * g.monitorRoom + (rest.map fun v => v.category).sum ≤ W9) (hdg : decode c.code g.pc = .ok (.invokevirtual index, 3))
    (hpre : ∀ vm₁, s.WarmedH vm₁ → Pre ⟨T.setVm vm₁, locs, cells, slots⟩ (Value.ref b :: argsL).toArray) :
    (∃ (v : Option Value) (vm₁ : Vm) (B : Pt), s.WarmedH vm₁ ∧ Stand p l e R s m args below meth c B.U B.locs B.cells B.slots ∧ Post ⟨T.setVm vm₁, locs, cells, slots⟩ (Value.ref b :: argsL).toArray v B ∧
      ∀ target, Steps p.tables e below (B.U.setTop { g with pc := g.pc + 3, stack := v.toList ++ rest }) target → Steps p.tables e below (T.setTop g) target) ∨
    (∃ (q : Addr) (vm₁ : Vm) (B : Pt), s.WarmedH vm₁ ∧ Stand p l e R s m args below meth c B.U B.locs B.cells B.slots ∧ PostX ⟨T.setVm vm₁, locs, cells, slots⟩ (Value.ref b :: argsL).toArray q B ∧
      Steps p.tables e below (T.setTop g) ((B.U.setTop { g with stack := rest }).pushFrame (.throwing q))) := by
  obtain ⟨mk, methM, hnamed, hmethM, hstM, habM⟩ := Cond.instanceMethod_spec hinst
  obtain ⟨methM', cM, hmethM', -, -, -, -, -, -, hsigM⟩ := Cond.code_spec hnamed hcode
  cases hmethM.symm.trans hmethM'
  obtain ⟨c2, r2, m2, q1, q2, q3, q4, kP, hkP, hkPi⟩ := Cond.selects_spec hsel
  cases hcls.symm.trans q1
  cases (State.methodFound?_of_named hnamed hy).symm.trans q2
  cases hnamed.symm.trans q3
  have hselP : selectMethod e.platform s.vm cellB.cls mk = .method mk := by rw [Launch.admits_selectMethod X.admits]; exact q4
  obtain ⟨vm₁, X₁, hstep₁⟩ := X.invokevirtual hexec hown hlink hnamed hmethM hstM hkP hkPi hy (a := b) (cell := cellB) hcell
    (fun z h => by rw [h] at hobj; cases hobj) hselP hmethM habM hkP hkPi (g := g) hg (argsL := argsL) (rest := rest) (hlen _ hsigM) hstack hdg
  rcases hK m meth c ⟨T.setVm vm₁, locs, cells, slots⟩ { g with stack := rest } (.invokevirtual index) mk (Value.ref b :: argsL).toArray X₁ hg hsize hdg hW (X₁.named hnamed) (hpre vm₁ X₁.warmed) with ⟨v, B, X', hpost, hsteps⟩ | ⟨q, B, X', hpost, hsteps⟩
  · exact Or.inl ⟨v, vm₁, B, X₁.warmed, X', hpost, fun target h => hstep₁ _ fun acts => by rw [doInvoke_state]; exact hsteps.trans h⟩
  · exact Or.inr ⟨q, vm₁, B, X₁.warmed, X', hpost, hstep₁ _ fun acts => by rw [doInvoke_state]; exact hsteps⟩
theorem vx_callS (X : Stand p l e R s m args below meth c T locs cells slots) (hexec : p.tables.exec = Jvm.exec) {own : String} {index : Nat} {y : MethodName} {bytes : ByteArray} {maxL : Nat} {ret : Option FieldType}
    (hown : s.vm.findClass own = some m.cls) (hlink : (Cond.methodLink own index y).before args s = true) (hstat : (Cond.static y).before args s = true) (hinit : (Cond.initialized y.cls).before args s = true)
    (hcode : (Cond.code y bytes maxL ret).before args s = true) (hy : y.cls ≠ "java/lang/invoke/MethodHandle" ∧ y.cls ≠ "java/lang/invoke/VarHandle")
    {W9 : Nat} {Pre : Pt → Array Value → Prop} {Post : Pt → Array Value → Option Value → Pt → Prop} {PostX : Pt → Array Value → Addr → Pt → Prop} (hK : vx_Back l R p e below s args y 3 W9 Pre Post PostX)
    {g : JFrame} (hg : g.method = m) (hsize : g.locals.size = c.maxLocals) {argsL rest : List Value} (hlen : ∀ sig, parseMethodDescriptor y.desc = some sig → argsL.length = sig.parameters.length)
    (hstack : g.stack = argsL.reverse ++ rest) (hW : 2 * g.monitorRoom + (rest.map fun v => v.category).sum ≤ W9) (hdg : decode c.code g.pc = .ok (.invokestatic index, 3))
    (hpre : ∀ vm₁, s.WarmedH vm₁ → Pre ⟨T.setVm vm₁, locs, cells, slots⟩ argsL.toArray) :
    (∃ (v : Option Value) (vm₁ : Vm) (B : Pt), s.WarmedH vm₁ ∧ Stand p l e R s m args below meth c B.U B.locs B.cells B.slots ∧ Post ⟨T.setVm vm₁, locs, cells, slots⟩ argsL.toArray v B ∧
      ∀ target, Steps p.tables e below (B.U.setTop { g with pc := g.pc + 3, stack := v.toList ++ rest }) target → Steps p.tables e below (T.setTop g) target) ∨
    (∃ (q : Addr) (vm₁ : Vm) (B : Pt), s.WarmedH vm₁ ∧ Stand p l e R s m args below meth c B.U B.locs B.cells B.slots ∧ PostX ⟨T.setVm vm₁, locs, cells, slots⟩ argsL.toArray q B ∧
      Steps p.tables e below (T.setTop g) ((B.U.setTop { g with stack := rest }).pushFrame (.throwing q))) := by
  obtain ⟨mk, hnamed⟩ := Cond.code_named hcode
  obtain ⟨methM, cM, hmethM, -, -, -, -, -, -, hsigM⟩ := Cond.code_spec hnamed hcode
  have hstatic : methM.isStatic = true := Cond.static_spec hnamed hmethM hstat
  obtain ⟨kP, hkP, -⟩ := className_of_methodNamed hnamed
  have hinitP : kP.init = .initialized := Cond.initialized_spec (findClass_of_methodNamed hnamed) hkP hinit
  obtain ⟨vm₁, X₁, hstep₁⟩ := X.invokestatic hexec hown hlink hnamed hmethM hstatic hkP hinitP hy (g := g) hg (argsL := argsL) (rest := rest) (hlen _ hsigM) hstack hdg
  rcases hK m meth c ⟨T.setVm vm₁, locs, cells, slots⟩ { g with stack := rest } (.invokestatic index) mk argsL.toArray X₁ hg hsize hdg hW (X₁.named hnamed) (hpre vm₁ X₁.warmed) with ⟨v, B, X', hpost, hsteps⟩ | ⟨q, B, X', hpost, hsteps⟩
  · exact Or.inl ⟨v, vm₁, B, X₁.warmed, X', hpost, fun target h => hstep₁ _ fun acts => by rw [doInvoke_state]; exact hsteps.trans h⟩
  · exact Or.inr ⟨q, vm₁, B, X₁.warmed, X', hpost, hstep₁ _ fun acts => by rw [doInvoke_state]; exact hsteps⟩
end Calls
theorem vx_cls {s : State} {T : State} {vm₁ : Vm} {E : String} {k : ClassId} (hW : s.WarmedH vm₁) (h : (T.setVm vm₁).vm.findClass E = some k) : s.vm.findClass E = some k := by
  have h1 : vm₁.findClass E = some k := h
  rw [hW.alike.findClass] at h1
  exact h1
/-- the method's frame g, with q thrown over it -/
def vx_W (p : Program) (l : Launch) (e : Env) (R : Room) (s : State) (m : MethodId) (args : Array Value) (below : List Frame) (meth : Method) (c : Code) (H : Heap) (locs : List Loc) (cells slots : Nat) (Q : State → Prop) (g : JFrame) (q : Addr) : Prop :=
  ∀ T : State, T.heap = H → Stand p l e R s m args below meth c T locs cells slots → ∃ t, Steps p.tables e below ((T.setTop g).pushFrame (.throwing q)) t ∧ Q t
def vx_Run (p : Program) (l : Launch) (e : Env) (R : Room) (s : State) (m : MethodId) (args : Array Value) (below : List Frame) (meth : Method) (c : Code) (H : Heap) (locs : List Loc) (cells slots mc ms : Nat) (g : JFrame) (rest : List Value) (Qa : State → Outcome → State → Prop) (XC : String → State → State → Prop) (free : Addr → Prop) : Prop :=
  ∀ T : State, T.heap = H → Stand p l e R s m args below meth c T locs cells slots →
    (∃ (v : Option Value) (st₀ t T' : State) (L : List Loc), st₀.heap = H ∧ Stand p l e R s m args below meth c T' (locs ++ L) (cells + mc) (slots + ms) ∧ (∀ q ∈ L, free q.base) ∧ T'.heap = t.heap ∧ T'.vm = t.vm ∧ Qa st₀ (.returned v) t ∧
      Goes p e below T g T' { g with pc := g.pc + 3, stack := v.toList ++ rest }) ∨
    (∃ (q : Addr) (st₀ t T' : State) (L : List Loc) (E : String) (ce : Cell), st₀.heap = H ∧ Stand p l e R s m args below meth c T' (locs ++ L) (cells + mc) (slots + ms) ∧ (∀ z ∈ L, free z.base) ∧ T'.heap = t.heap ∧ T'.vm = t.vm ∧ XC E st₀ t ∧ t.heap[q]? = some ce ∧ ce.vm = .none ∧ s.vm.findClass E = some ce.cls ∧
      Steps p.tables e below (T.setTop g) ((T'.setTop { g with stack := rest }).pushFrame (.throwing q)))
def vx_X {S : Type} (px : S → Prop) (B : String → S → State → Prop) (A : Nat → Prop) : String → State → State → Prop := fun E st t => ∃ u : S, px u ∧ B E u t ∧ va_F A st t
section Runs
variable {p : Program} {l : Launch} {e : Env} {R : Room} {s : State} {m : MethodId} {args : Array Value} {below : List Frame} {meth : Method} {c : Code} {H : Heap} {locs : List Loc} {cells slots : Nat}
variable {y : MethodName} {bytes cc : ByteArray} {maxL nL mc ms n index : Nat} {ret : Option FieldType} {ws : List Cond} {rm : Room} {Pc : Array Value → State → Prop} {Qc : Array Value → State → Outcome → State → Prop} {XC : String → State → State → Prop} {free : Addr → Prop} {Ts : List Cond} {own C : String} {b : Addr} {As rest : List Value} {g : JFrame}
theorem vx_callBack (cb : CallB R s args own index y bytes maxL ret ws rm mc ms n) (hM : vx_Met l y ws rm Pc Qc XC mc ms free) (hbl : FrameBlind Pc) : vx_Back l R p e below s args y 3 8 (PreOf R mc ms Pc) (PostOf Qc mc ms free) (vx_Post XC mc ms free) := by
  obtain ⟨hrc, hrs, hfr, hlo, hws, hcw, -, hini, -⟩ := cb
  exact vx_back (bytes := bytes) (maxL := maxL) (ret := ret) hM hbl hrc hrs hfr hlo hws hcw (fun a' U hW => word_at hW (Or.inl (by first | rfl | simp [Cond.onTables, Cond.keeps, Cond.steady])) hini)
theorem vx_runV (S : CallFix p m c cc nL s args Ts own) (hM : vx_Met l y ws rm Pc Qc XC mc ms free) (cw : CallW R s args own C index y bytes maxL ret ws rm mc ms n) (hp : PreV s H C b Pc As)
    (hg : g.method = m) (hn : As.length = n) (hsize : g.locals.size = nL) (hstack : g.stack = As.reverse ++ .ref b :: rest) (hW : 2 * g.monitorRoom + (rest.map fun v => v.category).sum ≤ 8) (hdg : decode cc g.pc = .ok (.invokevirtual index, 3)) (hf : cells + mc ≤ R.cells ∧ slots + ms ≤ R.slots) :
    vx_Run p l e R s m args below meth c H locs cells slots mc ms g rest (Qc (Value.ref b :: As).toArray) XC free := by
  have hK : vx_Back l R p e below s args y 3 8 (PreOf R mc ms Pc) (PostOf Qc mc ms free) (vx_Post XC mc ms free) := vx_callBack cw.1 hM hp.1
  obtain ⟨⟨-, -, -, -, -, -, hcode, -, hy, hlen, hl⟩, hin, hse⟩ := cw
  obtain ⟨hx, hb, hml, ho, -⟩ := S
  obtain ⟨-, ⟨cellB, hcB, hoB, hclB⟩, hPc⟩ := hp
  intro T hT X
  rcases vx_callV X hx (C := C) (bytes := bytes) (maxL := maxL) (ret := ret) ho hl hin hse hcode hy hK (by rw [hT]; exact hcB) hoB hclB hg (hsize.trans hml.symm) (argsL := As) (rest := rest) (fun sig h => hn.trans (hlen sig h)) hstack hW (by rw [hb]; exact hdg)
    (fun vm₁ hW₁ => ⟨hf.1, hf.2, hPc (T.setVm vm₁) hT hW₁⟩) with ⟨v, vm₁, ⟨U', l2, c2, s2⟩, hW₁, X', ⟨g', mk, t, L, e1, e2, hq, h1, hL, h2, h3⟩, st⟩ | ⟨q, vm₁, ⟨U', l2, c2, s2⟩, hW₁, X', ⟨g', mk, t, L, E, ce, e1, e2, hq, hce, hcv, hcl, h1, hL, h2, h3⟩, st⟩
  · dsimp only [Pt.U, Pt.locs, Pt.cells, Pt.slots] at X' e1 e2 h1 h2 h3 st
    subst h1; subst h2; subst h3
    exact Or.inl ⟨v, (T.setVm vm₁).calling g' mk (Value.ref b :: As).toArray, t, U', L, hT, X', hL, e1, e2, hq, st⟩
  · dsimp only [Pt.U, Pt.locs, Pt.cells, Pt.slots] at X' e1 e2 h1 h2 h3 st hcl
    subst h1; subst h2; subst h3
    exact Or.inr ⟨q, (T.setVm vm₁).calling g' mk (Value.ref b :: As).toArray, t, U', L, E, ce, hT, X', hL, e1, e2, hq, hce, hcv, vx_cls hW₁ hcl, st⟩
theorem vx_runS (S : CallFix p m c cc nL s args Ts own) (hM : vx_Met l y ws rm Pc Qc XC mc ms free) (cw : CallB R s args own index y bytes maxL ret ws rm mc ms n ∧ (Cond.static y).before args s = true) (hp : PreS s H Pc As)
    (hg : g.method = m) (hn : As.length = n) (hsize : g.locals.size = nL) (hstack : g.stack = As.reverse ++ rest) (hW : 2 * g.monitorRoom + (rest.map fun v => v.category).sum ≤ 8) (hdg : decode cc g.pc = .ok (.invokestatic index, 3)) (hf : cells + mc ≤ R.cells ∧ slots + ms ≤ R.slots) :
    vx_Run p l e R s m args below meth c H locs cells slots mc ms g rest (Qc As.toArray) XC free := by
  have hK : vx_Back l R p e below s args y 3 8 (PreOf R mc ms Pc) (PostOf Qc mc ms free) (vx_Post XC mc ms free) := vx_callBack cw.1 hM hp.1
  obtain ⟨⟨-, -, -, -, -, -, hcode, hini, hy, hlen, hl⟩, hstt⟩ := cw
  obtain ⟨hx, hb, hml, ho, -⟩ := S
  intro T hT X
  rcases vx_callS X hx (bytes := bytes) (maxL := maxL) (ret := ret) ho hl hstt hini hcode hy hK hg (hsize.trans hml.symm) (argsL := As) (rest := rest) (fun sig h => hn.trans (hlen sig h)) hstack hW (by rw [hb]; exact hdg)
    (fun vm₁ hW₁ => ⟨hf.1, hf.2, hp.2 (T.setVm vm₁) hT hW₁⟩) with ⟨v, vm₁, ⟨U', l2, c2, s2⟩, hW₁, X', ⟨g', mk, t, L, e1, e2, hq, h1, hL, h2, h3⟩, st⟩ | ⟨q, vm₁, ⟨U', l2, c2, s2⟩, hW₁, X', ⟨g', mk, t, L, E, ce, e1, e2, hq, hce, hcv, hcl, h1, hL, h2, h3⟩, st⟩
  · dsimp only [Pt.U, Pt.locs, Pt.cells, Pt.slots] at X' e1 e2 h1 h2 h3 st
    subst h1; subst h2; subst h3
    exact Or.inl ⟨v, (T.setVm vm₁).calling g' mk As.toArray, t, U', L, hT, X', hL, e1, e2, hq, st⟩
  · dsimp only [Pt.U, Pt.locs, Pt.cells, Pt.slots] at X' e1 e2 h1 h2 h3 st hcl
    subst h1; subst h2; subst h3
    exact Or.inr ⟨q, (T.setVm vm₁).calling g' mk As.toArray, t, U', L, E, ce, hT, X', hL, e1, e2, hq, hce, hcv, vx_cls hW₁ hcl, st⟩
end Runs
section Rows
variable {p : Program} {l : Launch} {e : Env} {R : Room} {s : State} {m : MethodId} {args : Array Value} {below : List Frame} {meth : Method} {c : Code} {H : Heap} {locs : List Loc} {cells slots : Nat} {Q : State → Prop}
variable {mc ms : Nat} {free : Addr → Prop} {A0 A1 : Nat → Prop} {H0 : Heap} {a : Array Value} {pc : Nat} {ls : Array Slot} {st0 rest : List Value}
theorem vx_keep {st₀ t T' : State} {L : List Loc} (h0 : st₀.heap = H) (e1 : T'.heap = t.heap) (hS : va_S A0 H0 H locs) (hA : ∀ q, q < H.size → A1 q → A0 q) (hf : ∀ q, free q → A0 q) (hL : ∀ q ∈ L, free q.base) (hF : va_F A1 st₀ t) :
    H.size ≤ T'.heap.size ∧ (∀ q : Nat, q < H.size → ¬ A1 q → T'.heap[q]? = H[q]?) ∧ va_S A0 H0 T'.heap (locs ++ L) := by
  obtain ⟨hz, hk⟩ := hF
  rw [h0] at hz hk
  exact ⟨by rw [e1]; exact hz, fun q h1 h2 => by rw [e1]; exact hk q h1 h2,
    ⟨Nat.le_trans hS.1 (by rw [e1]; exact hz), fun q h1 h2 => by rw [e1, hk q (Nat.lt_of_lt_of_le h1 hS.1) (fun z => h2 (hA q (Nat.lt_of_lt_of_le h1 hS.1) z))]; exact hS.2.1 q h1 h2, fun q hq => by
      rcases List.mem_append.mp hq with h | h
      · exact hS.2.2 q h
      · exact hf _ (hL q h)⟩⟩
theorem vx_calli {S SX : Type} {post : Int32 → S → Prop} {px : SX → Prop} {B : S → State → Prop} {BX : String → SX → State → Prop} {AX : Nat → Prop} (hr : vx_Run p l e R s m args below meth c H locs cells slots mc ms (F0 m pc ls st0) rest (va_Qi post B A1 a) (vx_X px BX AX) free) (hS : va_S A0 H0 H locs) (hA : ∀ q, q < H.size → A1 q → A0 q) (hf : ∀ q, free q → A0 q) (hAX : ∀ q, q < H.size → AX q → A0 q)
    (kx : ∀ (E : String) (ce : Cell) (q9 : Addr) (u : SX) (t : State) (H1 : Heap) (locs1 : List Loc), t.heap = H1 → s.vm.Alike t.vm → px u → BX E u t → H.size ≤ H1.size → (∀ q : Nat, q < H.size → ¬ AX q → H1[q]? = H[q]?) → va_S A0 H0 H1 locs1 → H1[q9]? = some ce → ce.vm = .none → s.vm.findClass E = some ce.cls → vx_W p l e R s m args below meth c H1 locs1 (cells + mc) (slots + ms) Q (F0 m pc ls rest) q9)
    (kk : ∀ (r : Int32) (u : S) (t : State) (H1 : Heap) (locs1 : List Loc), t.heap = H1 → s.vm.Alike t.vm → post r u → B u t → H.size ≤ H1.size → (∀ q : Nat, q < H.size → ¬ A1 q → H1[q]? = H[q]?) → va_S A0 H0 H1 locs1 → W p l e R s m args below meth c H1 locs1 (cells + mc) (slots + ms) Q (F0 m (pc + 3) ls (.int r :: rest))) : W p l e R s m args below meth c H locs cells slots Q (F0 m pc ls st0) := by
  intro T hT X
  rcases hr T hT X with ⟨v, st₀, t, T', L, h0, X', hL, e1, e2, ⟨⟨r, u, hv, hp, hb⟩, hF⟩, st⟩ | ⟨q, st₀, t, T', L, E, ce, h0, X', hL, e1, e2, ⟨u, hp, hb, hF⟩, hce, hcv, hcl, st⟩
  · cases hv
    obtain ⟨k1, k2, k3⟩ := vx_keep h0 e1 hS hA hf hL hF
    obtain ⟨t2, a1, b1⟩ := kk r u t T'.heap (locs ++ L) e1.symm (by rw [← e2]; exact X'.warmed.alike) hp hb k1 k2 k3 T' rfl X'
    exact ⟨t2, st t2 a1, b1⟩
  · obtain ⟨k1, k2, k3⟩ := vx_keep h0 e1 hS hAX hf hL hF
    obtain ⟨t2, a1, b1⟩ := kx E ce q u t T'.heap (locs ++ L) e1.symm (by rw [← e2]; exact X'.warmed.alike) hp hb k1 k2 k3 (by rw [e1]; exact hce) hcv hcl T' rfl X'
    exact ⟨t2, st.trans a1, b1⟩
theorem vx_calll {S SX : Type} {post : Int64 → S → Prop} {px : SX → Prop} {B : S → State → Prop} {BX : String → SX → State → Prop} {AX : Nat → Prop} (hr : vx_Run p l e R s m args below meth c H locs cells slots mc ms (F0 m pc ls st0) rest (va_Ql post B A1 a) (vx_X px BX AX) free) (hS : va_S A0 H0 H locs) (hA : ∀ q, q < H.size → A1 q → A0 q) (hf : ∀ q, free q → A0 q) (hAX : ∀ q, q < H.size → AX q → A0 q)
    (kx : ∀ (E : String) (ce : Cell) (q9 : Addr) (u : SX) (t : State) (H1 : Heap) (locs1 : List Loc), t.heap = H1 → s.vm.Alike t.vm → px u → BX E u t → H.size ≤ H1.size → (∀ q : Nat, q < H.size → ¬ AX q → H1[q]? = H[q]?) → va_S A0 H0 H1 locs1 → H1[q9]? = some ce → ce.vm = .none → s.vm.findClass E = some ce.cls → vx_W p l e R s m args below meth c H1 locs1 (cells + mc) (slots + ms) Q (F0 m pc ls rest) q9)
    (kk : ∀ (r : Int64) (u : S) (t : State) (H1 : Heap) (locs1 : List Loc), t.heap = H1 → s.vm.Alike t.vm → post r u → B u t → H.size ≤ H1.size → (∀ q : Nat, q < H.size → ¬ A1 q → H1[q]? = H[q]?) → va_S A0 H0 H1 locs1 → W p l e R s m args below meth c H1 locs1 (cells + mc) (slots + ms) Q (F0 m (pc + 3) ls (.long r :: rest))) : W p l e R s m args below meth c H locs cells slots Q (F0 m pc ls st0) := by
  intro T hT X
  rcases hr T hT X with ⟨v, st₀, t, T', L, h0, X', hL, e1, e2, ⟨⟨r, u, hv, hp, hb⟩, hF⟩, st⟩ | ⟨q, st₀, t, T', L, E, ce, h0, X', hL, e1, e2, ⟨u, hp, hb, hF⟩, hce, hcv, hcl, st⟩
  · cases hv
    obtain ⟨k1, k2, k3⟩ := vx_keep h0 e1 hS hA hf hL hF
    obtain ⟨t2, a1, b1⟩ := kk r u t T'.heap (locs ++ L) e1.symm (by rw [← e2]; exact X'.warmed.alike) hp hb k1 k2 k3 T' rfl X'
    exact ⟨t2, st t2 a1, b1⟩
  · obtain ⟨k1, k2, k3⟩ := vx_keep h0 e1 hS hAX hf hL hF
    obtain ⟨t2, a1, b1⟩ := kx E ce q u t T'.heap (locs ++ L) e1.symm (by rw [← e2]; exact X'.warmed.alike) hp hb k1 k2 k3 (by rw [e1]; exact hce) hcv hcl T' rfl X'
    exact ⟨t2, st.trans a1, b1⟩
theorem vx_callf {S SX : Type} {post : UInt32 → S → Prop} {px : SX → Prop} {B : S → State → Prop} {BX : String → SX → State → Prop} {AX : Nat → Prop} (hr : vx_Run p l e R s m args below meth c H locs cells slots mc ms (F0 m pc ls st0) rest (va_Qf post B A1 a) (vx_X px BX AX) free) (hS : va_S A0 H0 H locs) (hA : ∀ q, q < H.size → A1 q → A0 q) (hf : ∀ q, free q → A0 q) (hAX : ∀ q, q < H.size → AX q → A0 q)
    (kx : ∀ (E : String) (ce : Cell) (q9 : Addr) (u : SX) (t : State) (H1 : Heap) (locs1 : List Loc), t.heap = H1 → s.vm.Alike t.vm → px u → BX E u t → H.size ≤ H1.size → (∀ q : Nat, q < H.size → ¬ AX q → H1[q]? = H[q]?) → va_S A0 H0 H1 locs1 → H1[q9]? = some ce → ce.vm = .none → s.vm.findClass E = some ce.cls → vx_W p l e R s m args below meth c H1 locs1 (cells + mc) (slots + ms) Q (F0 m pc ls rest) q9)
    (kk : ∀ (r : UInt32) (u : S) (t : State) (H1 : Heap) (locs1 : List Loc), t.heap = H1 → s.vm.Alike t.vm → post r u → B u t → H.size ≤ H1.size → (∀ q : Nat, q < H.size → ¬ A1 q → H1[q]? = H[q]?) → va_S A0 H0 H1 locs1 → W p l e R s m args below meth c H1 locs1 (cells + mc) (slots + ms) Q (F0 m (pc + 3) ls (.float r :: rest))) : W p l e R s m args below meth c H locs cells slots Q (F0 m pc ls st0) := by
  intro T hT X
  rcases hr T hT X with ⟨v, st₀, t, T', L, h0, X', hL, e1, e2, ⟨⟨r, u, hv, hp, hb⟩, hF⟩, st⟩ | ⟨q, st₀, t, T', L, E, ce, h0, X', hL, e1, e2, ⟨u, hp, hb, hF⟩, hce, hcv, hcl, st⟩
  · cases hv
    obtain ⟨k1, k2, k3⟩ := vx_keep h0 e1 hS hA hf hL hF
    obtain ⟨t2, a1, b1⟩ := kk r u t T'.heap (locs ++ L) e1.symm (by rw [← e2]; exact X'.warmed.alike) hp hb k1 k2 k3 T' rfl X'
    exact ⟨t2, st t2 a1, b1⟩
  · obtain ⟨k1, k2, k3⟩ := vx_keep h0 e1 hS hAX hf hL hF
    obtain ⟨t2, a1, b1⟩ := kx E ce q u t T'.heap (locs ++ L) e1.symm (by rw [← e2]; exact X'.warmed.alike) hp hb k1 k2 k3 (by rw [e1]; exact hce) hcv hcl T' rfl X'
    exact ⟨t2, st.trans a1, b1⟩
theorem vx_calld {S SX : Type} {post : UInt64 → S → Prop} {px : SX → Prop} {B : S → State → Prop} {BX : String → SX → State → Prop} {AX : Nat → Prop} (hr : vx_Run p l e R s m args below meth c H locs cells slots mc ms (F0 m pc ls st0) rest (va_Qd post B A1 a) (vx_X px BX AX) free) (hS : va_S A0 H0 H locs) (hA : ∀ q, q < H.size → A1 q → A0 q) (hf : ∀ q, free q → A0 q) (hAX : ∀ q, q < H.size → AX q → A0 q)
    (kx : ∀ (E : String) (ce : Cell) (q9 : Addr) (u : SX) (t : State) (H1 : Heap) (locs1 : List Loc), t.heap = H1 → s.vm.Alike t.vm → px u → BX E u t → H.size ≤ H1.size → (∀ q : Nat, q < H.size → ¬ AX q → H1[q]? = H[q]?) → va_S A0 H0 H1 locs1 → H1[q9]? = some ce → ce.vm = .none → s.vm.findClass E = some ce.cls → vx_W p l e R s m args below meth c H1 locs1 (cells + mc) (slots + ms) Q (F0 m pc ls rest) q9)
    (kk : ∀ (r : UInt64) (u : S) (t : State) (H1 : Heap) (locs1 : List Loc), t.heap = H1 → s.vm.Alike t.vm → post r u → B u t → H.size ≤ H1.size → (∀ q : Nat, q < H.size → ¬ A1 q → H1[q]? = H[q]?) → va_S A0 H0 H1 locs1 → W p l e R s m args below meth c H1 locs1 (cells + mc) (slots + ms) Q (F0 m (pc + 3) ls (.double r :: rest))) : W p l e R s m args below meth c H locs cells slots Q (F0 m pc ls st0) := by
  intro T hT X
  rcases hr T hT X with ⟨v, st₀, t, T', L, h0, X', hL, e1, e2, ⟨⟨r, u, hv, hp, hb⟩, hF⟩, st⟩ | ⟨q, st₀, t, T', L, E, ce, h0, X', hL, e1, e2, ⟨u, hp, hb, hF⟩, hce, hcv, hcl, st⟩
  · cases hv
    obtain ⟨k1, k2, k3⟩ := vx_keep h0 e1 hS hA hf hL hF
    obtain ⟨t2, a1, b1⟩ := kk r u t T'.heap (locs ++ L) e1.symm (by rw [← e2]; exact X'.warmed.alike) hp hb k1 k2 k3 T' rfl X'
    exact ⟨t2, st t2 a1, b1⟩
  · obtain ⟨k1, k2, k3⟩ := vx_keep h0 e1 hS hAX hf hL hF
    obtain ⟨t2, a1, b1⟩ := kx E ce q u t T'.heap (locs ++ L) e1.symm (by rw [← e2]; exact X'.warmed.alike) hp hb k1 k2 k3 (by rw [e1]; exact hce) hcv hcl T' rfl X'
    exact ⟨t2, st.trans a1, b1⟩
theorem vx_callv {S SX : Type} {post : S → Prop} {px : SX → Prop} {B : S → State → Prop} {BX : String → SX → State → Prop} {AX : Nat → Prop} (hr : vx_Run p l e R s m args below meth c H locs cells slots mc ms (F0 m pc ls st0) rest (va_Qv post B A1 a) (vx_X px BX AX) free) (hS : va_S A0 H0 H locs) (hA : ∀ q, q < H.size → A1 q → A0 q) (hf : ∀ q, free q → A0 q) (hAX : ∀ q, q < H.size → AX q → A0 q)
    (kx : ∀ (E : String) (ce : Cell) (q9 : Addr) (u : SX) (t : State) (H1 : Heap) (locs1 : List Loc), t.heap = H1 → s.vm.Alike t.vm → px u → BX E u t → H.size ≤ H1.size → (∀ q : Nat, q < H.size → ¬ AX q → H1[q]? = H[q]?) → va_S A0 H0 H1 locs1 → H1[q9]? = some ce → ce.vm = .none → s.vm.findClass E = some ce.cls → vx_W p l e R s m args below meth c H1 locs1 (cells + mc) (slots + ms) Q (F0 m pc ls rest) q9)
    (kk : ∀ (u : S) (t : State) (H1 : Heap) (locs1 : List Loc), t.heap = H1 → s.vm.Alike t.vm → post u → B u t → H.size ≤ H1.size → (∀ q : Nat, q < H.size → ¬ A1 q → H1[q]? = H[q]?) → va_S A0 H0 H1 locs1 → W p l e R s m args below meth c H1 locs1 (cells + mc) (slots + ms) Q (F0 m (pc + 3) ls (rest))) : W p l e R s m args below meth c H locs cells slots Q (F0 m pc ls st0) := by
  intro T hT X
  rcases hr T hT X with ⟨v, st₀, t, T', L, h0, X', hL, e1, e2, ⟨⟨u, hv, hp, hb⟩, hF⟩, st⟩ | ⟨q, st₀, t, T', L, E, ce, h0, X', hL, e1, e2, ⟨u, hp, hb, hF⟩, hce, hcv, hcl, st⟩
  · cases hv
    obtain ⟨k1, k2, k3⟩ := vx_keep h0 e1 hS hA hf hL hF
    obtain ⟨t2, a1, b1⟩ := kk u t T'.heap (locs ++ L) e1.symm (by rw [← e2]; exact X'.warmed.alike) hp hb k1 k2 k3 T' rfl X'
    exact ⟨t2, st t2 a1, b1⟩
  · obtain ⟨k1, k2, k3⟩ := vx_keep h0 e1 hS hAX hf hL hF
    obtain ⟨t2, a1, b1⟩ := kx E ce q u t T'.heap (locs ++ L) e1.symm (by rw [← e2]; exact X'.warmed.alike) hp hb k1 k2 k3 (by rw [e1]; exact hce) hcv hcl T' rfl X'
    exact ⟨t2, st.trans a1, b1⟩
/-- caught by the row x of this method's table; the rows ahead don't take it -/
theorem vx_catch {own name : String} {E : String} {ce : Cell} {q : Addr} (hown : s.vm.findClass own = some m.cls) (pre : List ExceptionTableEntry) (x : ExceptionTableEntry) (suf : List ExceptionTableEntry) (hsplit : c.exceptionTable.toList = pre ++ x :: suf)
    (hpass : ∀ z ∈ pre, covers z pc = false ∨ (z.catchType ≠ 0 ∧ ∃ nm : String, (Cond.classLink own z.catchType nm).before args s = true ∧ va_Nc E nm s)) (hx : covers x pc = true) (h0 : x.catchType ≠ 0)
    (hlink : (Cond.classLink own x.catchType name).before args s = true) (hcast : (Cond.castable E name).before args s = true) (hcell : H[q]? = some ce) (hv : ce.vm = .none) (hcl : s.vm.findClass E = some ce.cls)
    (kk : W p l e R s m args below meth c H locs cells slots Q (F0 m x.handlerPc ls [.ref q])) : vx_W p l e R s m args below meth c H locs cells slots Q (F0 m pc ls rest) q := by
  intro T hT X
  have hpl : e.platform.magicAccessors = ({} : Platform).magicAccessors := by rw [X.admits.platform]
  obtain ⟨c3, c4, hc3, hc4, hasg⟩ := Cond.castable_spec hcast
  cases Option.some.inj (hc3.symm.trans hcl)
  obtain ⟨c5, hc5, hcl5⟩ := Cond.classLink_spec hown hlink e.platform hpl
  cases Option.some.inj (hc4.symm.trans hc5)
  obtain ⟨vm', X', st⟩ := Stand.thenCaughtThrough X q (g := F0 m pc ls rest) rfl (Steps.refl _) (by rw [hT]; exact hcell) (by rw [hv]; rfl) (by obtain ⟨k9, h9, -⟩ := Vm.findClass_spec hcl; exact ⟨k9, h9⟩) pre x suf hsplit
    (fun z hz => by
      rcases hpass z hz with h | ⟨hz0, nm, hl1, hn1⟩
      · exact Or.inl h
      · obtain ⟨c6, hc6, hcl6⟩ := Cond.classLink_spec hown hl1 e.platform hpl
        obtain ⟨a8, b8, h1, h2, h3⟩ := hn1
        cases Option.some.inj (h1.symm.trans hcl)
        cases Option.some.inj (h2.symm.trans hc6)
        exact Or.inr ⟨hz0, _, hcl6, h3⟩) hx (Or.inr ⟨h0, c4, hcl5, hasg⟩)
  obtain ⟨t, a1, b1⟩ := kk (T.setVm vm') hT X'
  exact ⟨t, st.trans a1, b1⟩
end Rows
section Ends
variable {p : Program} {l : Launch} {e : Env} {R : Room} {s : State} {m : MethodId} {args : Array Value} {below : List Frame} {meth : Method} {c : Code} {H : Heap} {locs : List Loc} {cells slots : Nat} {Q : State → Prop}
variable {mc ms : Nat} {free : Addr → Prop} {A0 A1 : Nat → Prop} {H0 : Heap} {a : Array Value} {ls : Array Slot} {st0 rest : List Value}
variable {Qc : Array Value → State → Outcome → State → Prop} {XC : String → State → State → Prop}
/-- what a body that may throw owes at its end -/
def vx_MQ (below : List Frame) (Qc : Array Value → State → Outcome → State → Prop) (XC : String → State → State → Prop) (a : Array Value) (s : State) (mc ms : Nat) (free : Addr → Prop) : State → Prop := fun t =>
  ∃ o, t.status = .running ∧ Ended t below o ∧ vx_Q Qc XC mc ms free a s o t
theorem vx_ret {g : JFrame} {mc ms : Nat} (k : W p l e R s m args below meth c H locs cells slots (MQ below Qc args s mc ms free) g) : W p l e R s m args below meth c H locs cells slots (vx_MQ below Qc XC args s mc ms free) g := by
  intro T hT X
  obtain ⟨t, a1, o, b1, b2, b3, b4⟩ := k T hT X
  exact ⟨t, a1, o, b1, b2, Or.inl ⟨b3, b4⟩⟩
/-- not caught here: it goes on to the caller -/
theorem vx_widen {g : JFrame} {q : Addr} {k n : Nat} (h1 : cells ≤ k) (h2 : slots ≤ n) (kk : vx_W p l e R s m args below meth c H locs k n Q g q) : vx_W p l e R s m args below meth c H locs cells slots Q g q := fun T hT X => kk T hT (stand_widen X h1 h2)
theorem vx_out {pc : Nat} {E : String} {ce : Cell} {q : Addr} {mc ms : Nat} (hout : ∀ x ∈ c.exceptionTable.toList, covers x pc = false) (hlocks : meth.locks = false) (hcell : H[q]? = some ce) (hv : ce.vm = .none) (hcl : s.vm.findClass E = some ce.cls)
    (hx : ∀ t : State, t.heap = H → s.vm.Alike t.vm → XC E s t) (hf : ∀ z ∈ locs, free z.base) (hc : cells ≤ mc) (hs : slots ≤ ms) :
    vx_W p l e R s m args below meth c H locs cells slots (vx_MQ below Qc XC args s mc ms free) (F0 m pc ls rest) q := by
  intro T hT X
  obtain ⟨st1, hrun, hend, hW, hsm⟩ := X.leaveThrown q (g := F0 m pc ls rest) rfl rfl rfl hout hlocks
  have hcell9 : (T.setFrames (.throwing q :: below)).heap[q]? = some ce := by
    show T.heap[q]? = some ce
    rw [hT]; exact hcell
  exact ⟨_, st1, .threw q, hrun, hend, Or.inr ⟨q, rfl, E, ce, locs, hx _ hT hW.alike, hcell9, hv, hcl, hW, hsm.mono hc hs, hf⟩⟩
theorem vx_frame {U : State} {k n : Nat} (h : s.sameButNew ({ U with vm := s.vm } : State) locs k n) : s.heap.size ≤ U.heap.size ∧ ∀ q : Nat, q < s.heap.size → (∀ z ∈ locs, z.base ≠ q) → U.heap[q]? = s.heap[q]? := by
  obtain ⟨-, h2, -, -, -, h6⟩ := h
  refine ⟨h2, fun q hq hz => ?_⟩
  obtain ⟨c9, e1, e2, e3, e4⟩ := h6 q _ (Array.getElem?_eq_getElem hq)
  have hs : c9.slots = (s.heap[q]).slots := Array.ext_getElem? fun i => e4 i fun hm => hz _ hm rfl
  have h9 : c9 = s.heap[q] := by
    rw [hs] at e2
    exact e2
  have e5 : U.heap[q]? = some c9 := e1
  rw [e5, h9, Array.getElem?_eq_getElem hq]
/-- the words of a throw but the four that speak of the heap -/
def vx_no (w : Cond) : Bool := decide (w ≠ .isRef (.static Bundle.tN "UNASSIGNED_STACK" Bundle.steD)) && decide (w ≠ .isRef (.static Bundle.tN "SUPPRESSED_SENTINEL" Bundle.listD)) && decide (w ≠ .laysStatic Bundle.tN "UNASSIGNED_STACK" Bundle.steD) && decide (w ≠ .laysStatic Bundle.tN "SUPPRESSED_SENTINEL" Bundle.listD)
def vx_at0 (own : String) (ic : Nat) (X : String) (names : List String) : List Cond := (Bundle.ownAtoms0 own ic X names).filter vx_no
def vx_atS (own : String) (ic : Nat) (X : String) (names : List String) : List Cond := (Bundle.ownAtoms own ic X names).filter vx_no
/-- a word that the tables alone decide, or a good one -/
def vx_ot (w : Cond) : Bool := w.onTables || goodWord w
theorem vx_ot_at {args a' : Array Value} {s U : State} {w : Cond} (hW : s.WarmedH U.vm) (hvm : s.vm = U.vm) (hg : vx_ot w = true) (h : w.before args s = true) : w.before a' U = true := by
  simp only [vx_ot, Bool.or_eq_true] at hg
  rcases hg with hg | hg
  · exact va_tabs hg hvm h
  · exact word_at hW (good_of_word hg) h
/-- a list's words: the good ones out of the method's own list, the others by premises of their own -/
theorem vx_hat {args : Array Value} {s : State} {L B : List Cond} (h1 : ∀ w ∈ L.filter goodWord, w.before args s = true) (h2 : ∀ w ∈ L.filter (fun w => !goodWord w), w ∈ B) (h3 : ∀ w ∈ B, w.before args s = true) : ∀ w ∈ L, w.before args s = true := by
  intro w hw
  by_cases g : goodWord w = true
  · exact h1 w (List.mem_filter.mpr ⟨hw, g⟩)
  · refine h3 w (h2 w (List.mem_filter.mpr ⟨hw, ?_⟩))
    show (!goodWord w) = true
    cases hgw : goodWord w
    · rfl
    · exact absurd hgw g
theorem vx_c {args : Array Value} {s : State} {w : Cond} {B : List Cond} (h : w.before args s = true) (t : ∀ w ∈ B, w.before args s = true) : ∀ w' ∈ w :: B, w'.before args s = true := fun w' h' => (List.mem_cons.mp h').elim (fun e => by rw [e]; exact h) (t w')
theorem vx_n {args : Array Value} {s : State} : ∀ w ∈ ([] : List Cond), w.before args s = true := fun _ h => nomatch h
theorem vx_own {args : Array Value} {s : State} {L : List Cond} (h1 : ∀ w ∈ L.filter vx_no, w.before args s = true)
    (hU : (Cond.isRef (.static Bundle.tN "UNASSIGNED_STACK" Bundle.steD)).before args s = true) (hN : (Cond.isRef (.static Bundle.tN "SUPPRESSED_SENTINEL" Bundle.listD)).before args s = true)
    (lU : (Cond.laysStatic Bundle.tN "UNASSIGNED_STACK" Bundle.steD).before args s = true) (lN : (Cond.laysStatic Bundle.tN "SUPPRESSED_SENTINEL" Bundle.listD).before args s = true) : ∀ w ∈ L, w.before args s = true := by
  intro w hw
  by_cases e1 : w = .isRef (.static Bundle.tN "UNASSIGNED_STACK" Bundle.steD)
  · rw [e1]; exact hU
  · by_cases e2 : w = .isRef (.static Bundle.tN "SUPPRESSED_SENTINEL" Bundle.listD)
    · rw [e2]; exact hN
    · by_cases e3 : w = .laysStatic Bundle.tN "UNASSIGNED_STACK" Bundle.steD
      · rw [e3]; exact lU
      · by_cases e4 : w = .laysStatic Bundle.tN "SUPPRESSED_SENTINEL" Bundle.listD
        · rw [e4]; exact lN
        · exact h1 w (List.mem_filter.mpr ⟨hw, by unfold vx_no; rw [decide_eq_true e1, decide_eq_true e2, decide_eq_true e3, decide_eq_true e4]; rfl⟩)
/-- where a static field lies, its class's statics cell in H -/
def vx_L (C n d : String) (A : Nat → Prop) (U : State) (H : Heap) : Prop := ∃ (c : ClassId) (k : Class) (i : Nat) (f : Field) (a : Nat) (cell : Cell), U.vm.findClass C = some c ∧ U.fieldFound? C n d = some (c, k, i, f) ∧ f.isStatic = true ∧ k.statics = some a ∧ H[a]? = some cell ∧ cell.vm.isStatics = true ∧ cell.cls = c ∧ f.slot < cell.slots.size ∧ k.staticTypes[f.slot]? = some f.type ∧ ¬ A a
theorem vx_L.moved {C n d : String} {A : Nat → Prop} {u U : State} {H : Heap} (hvm : u.vm.Alike U.vm) (h : vx_L C n d A u H) : vx_L C n d A U H := by
  obtain ⟨c, k, i, f, a, cell, h1, h2, h3, h4, h5, h6, h7, h8, h9, h10⟩ := h
  obtain ⟨k', hi', he⟩ := State.fieldFound?_setVm hvm h2
  exact ⟨c, k', i, f, a, cell, by rw [hvm.findClass]; exact h1, hi', h3, by rw [he]; exact h4, h5, h6, h7, h8, by rw [he]; exact h9, h10⟩
theorem vx_L.kept {C n d : String} {A : Nat → Prop} {U : State} {H H1 : Heap} (h : vx_L C n d A U H) (hq : ∀ a : Nat, a < H.size → ¬ A a → H1[a]? = H[a]?) : vx_L C n d A U H1 := by
  obtain ⟨c, k, i, f, a, cell, h1, h2, h3, h4, h5, h6, h7, h8, h9, h10⟩ := h
  exact ⟨c, k, i, f, a, cell, h1, h2, h3, h4, by rw [hq a (Array.getElem?_eq_some_iff.mp h5).1 h10]; exact h5, h6, h7, h8, h9, h10⟩
theorem vx_L.narrow {C n d : String} {A B : Nat → Prop} {U : State} {H : Heap} (h : vx_L C n d A U H) (hAB : ∀ q, B q → A q) : vx_L C n d B U H := by
  obtain ⟨c, k, i, f, a, cell, h1, h2, h3, h4, h5, h6, h7, h8, h9, h10⟩ := h
  exact ⟨c, k, i, f, a, cell, h1, h2, h3, h4, h5, h6, h7, h8, h9, fun z => h10 (hAB _ z)⟩
theorem vx_L.word {C n d : String} {A : Nat → Prop} {s : State} {args : Array Value} (h : vx_L C n d A s s.heap) : (Cond.laysStatic C n d).before args s = true := by
  obtain ⟨c, k, i, f, a, cell, h1, h2, h3, h4, h5, h6, h7, h8, h9, -⟩ := h
  show (Cond.laysStatic C n d).holds args s none s [] = true
  exact Cond.laysStatic_of h1 h2 h3 h4 h5 h6 h7 h8 h9
/-- .. and what it holds: null or some reference -/
def vx_Zq (C n d : String) (A : Nat → Prop) (U : State) (H : Heap) : Prop := va_Zq C n d A U H ∧ vx_L C n d A U H
theorem vx_Zq.moved {C n d : String} {A : Nat → Prop} {u U : State} {H : Heap} (hvm : u.vm.Alike U.vm) (h : vx_Zq C n d A u H) : vx_Zq C n d A U H := ⟨va_Zq.moved hvm h.1, vx_L.moved hvm h.2⟩
theorem vx_Zq.kept {C n d : String} {A : Nat → Prop} {U : State} {H H1 : Heap} (h : vx_Zq C n d A U H) (hq : ∀ a : Nat, a < H.size → ¬ A a → H1[a]? = H[a]?) : vx_Zq C n d A U H1 := ⟨va_Zq.kept h.1 hq, vx_L.kept h.2 hq⟩
theorem vx_Zq.narrow {C n d : String} {A B : Nat → Prop} {U : State} {H : Heap} (h : vx_Zq C n d A U H) (hAB : ∀ q, B q → A q) : vx_Zq C n d B U H := ⟨va_Zq.narrow h.1 hAB, vx_L.narrow h.2 hAB⟩
theorem vx_Zqof {args : Array Value} {s : State} {C n d : String} {A : Nat → Prop} (hl : (Cond.laysStatic C n d).before args s = true) (hini : (Cond.initialized C).before args s = true) (h : (Cond.isRef (.static C n d)).before args s = true) (hA : ∀ a : Nat, a < s.heap.size → ¬ A a) : vx_Zq C n d A s s.heap := by
  refine ⟨va_Zqof hl hini h hA, ?_⟩
  obtain ⟨c, k, i, f, a, cell, h1, h2, h3, h4, h5, h6, h7, h8, h9⟩ := Cond.laysStatic_spec hl
  exact ⟨c, k, i, f, a, cell, h1, h2, h3, h4, h5, h6, h7, h8, h9, hA a (Array.getElem?_eq_some_iff.mp h5).1⟩
theorem vx_isRef {C n d : String} {v : Value} {A : Nat → Prop} {s : State} {args : Array Value} (h : va_Z C n d v A s s.heap) (hv : v.isRef = true) : (Cond.isRef (.static C n d)).before args s = true := by
  obtain ⟨cf, kf, fi, f, a, cell, h1, h2, h3, h4, h5, h6, h7, -⟩ := h
  have he : (Term.static C n d).eval args s none [] s = some v := by
    simp [Term.eval, State.fieldNamed?, h1, h2, h4, h5, h6, h7]
  simp only [Cond.before, Cond.holds, Cond.value, he]
  cases v <;> simp_all [Value.isRef]
theorem vx_isRefq {C n d : String} {A : Nat → Prop} {s : State} {args : Array Value} (h : va_Zq C n d A s s.heap) : (Cond.isRef (.static C n d)).before args s = true := by
  rcases h with h | ⟨t, h⟩
  · exact vx_isRef h rfl
  · exact vx_isRef h rfl
/-- the same frame, seen from here: as if the method were called anew in this heap -/
theorem vx_rebase {T : State} (X : Stand p l e R s m args below meth c T locs cells slots) {R' : Room} (hf : R'.frames ≤ R.frames) (hl : R'.locals ≤ R.locals) (hc : cells + R'.cells ≤ R.cells) (hs : slots + R'.slots ≤ R.slots) :
    Stand p l e R' ((T.setVm s.vm).setFrames (.invoking m args :: below)) m args below meth c T [] 0 0 := by
  have htop : (T.setVm s.vm).topJava?.isSome := X.here.top
  have hF : ((T.setVm s.vm).setFrames (.invoking m args :: below)).frames = .invoking m args :: below := State.frames_setFrames _ (State.cur_lt_of_top htop)
  obtain ⟨g₀, hg0⟩ := Option.isSome_iff_exists.mp htop
  obtain ⟨r, hr⟩ := State.topJava?_eq_some.mp hg0
  have hl9 : e.platform.stackLimits (T.setVm s.vm).me = e.platform.stackLimits s.me := X.limits
  have hb9 : (T.setVm s.vm).me.stackBytes = s.me.stackBytes := X.bytes
  refine ⟨X.admits, X.cas, X.clock, hF, ?_, X.hears, X.method, X.code, X.here, X.tail, X.warmed, ?_, ?_, ?_⟩
  · have h := X.room
    have hU : ((T.setVm s.vm).setFrames (.invoking m args :: below)).localsInUse = s.localsInUse := by
      rw [State.localsInUse_invoking hF (meth := meth) (c := c) X.method X.code, State.localsInUse_invoking X.frames X.method X.code]
    simp only [State.hasRoom, Bool.and_eq_true, decide_eq_true_eq] at h ⊢
    obtain ⟨⟨⟨⟨h1, h2, h3, h4, h5, h6⟩, h7⟩, h8⟩, h9⟩ := h
    rw [X.frames, List.length_cons] at h2 h3
    have q1 := X.heapSize
    have q2 := X.used
    simp only [hF, hU, List.length_cons, State.stackLimits_setFrames, State.stackBytes_setFrames, hl9, hb9]
    refine ⟨⟨⟨⟨by omega, by omega, by omega, by omega, by omega, h6⟩, ?_⟩, ?_⟩, X.book⟩
    · show T.heap.size + R'.cells ≤ e.platform.maxCells
      omega
    · show T.slotsUsed + R'.slots ≤ e.platform.maxSlots
      omega
  · rw [State.stackLimits_setFrames]; rfl
  · rw [State.stackBytes_setFrames]; rfl
  · refine ⟨?_, Nat.le_refl _, Nat.le_refl _, ?_, ?_, fun a c9 h9 => ⟨c9, h9, rfl, rfl, fun _ _ => rfl⟩⟩
    · obtain ⟨t, ht, -⟩ := State.frames_cons hr
      show T.setVm s.vm = { ((T.setVm s.vm).setFrames (.invoking m args :: below)).setFrames (T.setVm s.vm).frames with heap := T.heap, slotsUsed := T.slotsUsed }
      rw [State.setFrames_setFrames, State.setFrames_self ht]
      rfl
    · show T.slotsUsed = T.slotsUsed + ((T.heap.toList.drop T.heap.size).map (·.slots.size)).sum
      rw [List.drop_eq_nil_of_le (Nat.le_of_eq Array.length_toList)]
      rfl
    · show ((T.heap.toList.drop T.heap.size).map (·.slots.size)).sum ≤ 0
      rw [List.drop_eq_nil_of_le (Nat.le_of_eq Array.length_toList)]
      exact Nat.le_refl _
/-- 'throw new E()': new; dup; invokespecial; athrow -/
theorem vx_throw0 {cc : ByteArray} {pc : Nat} (hexec : p.tables.exec = Jvm.exec) (hb : c.code = cc) (hl : l.stackTraces = false) {own cls : String} {names : List String} {ik ic mc ms : Nat} {A : Nat → Prop}
    (hown : s.vm.findClass own = some m.cls) (hcls : Bundle.fit cls = true) (hnames : ∀ n ∈ names, Bundle.fit n = true)
    (hk : (Cond.classLink own ik cls).before args s = true) (hini : (Cond.initialized cls).before args s = true) (hat : ∀ w ∈ vx_at0 own ic cls names, w.before args s = true)
    (hgood : ∀ w ∈ Cond.classLink own ik cls :: Cond.initialized cls :: vx_at0 own ic cls names, vx_ot w = true)
    (hU : vx_Zq Bundle.tN "UNASSIGNED_STACK" Bundle.steD A s s.heap) (hN : vx_Zq Bundle.tN "SUPPRESSED_SENTINEL" Bundle.listD A s s.heap) (hS : va_S A s.heap H locs) (hsize : ls.size = c.maxLocals)
    (d0 : decode cc pc = .ok (.new ik, 3)) (d3 : decode cc (pc + 3) = .ok (.dup, 1)) (d4 : decode cc (pc + 4) = .ok (.invokespecial ic, 3)) (d7 : decode cc (pc + 7) = .ok (.athrow, 1))
    (hout : ∀ x ∈ c.exceptionTable.toList, covers x (pc + 7) = false)
    (hRframes : names.length + 3 < R.frames) (hRlocals : (rest.map fun v => v.category).sum + (13 * (names.length + 1) + 42) ≤ R.locals) (hRcells : cells + 1 ≤ R.cells) (hRslots : slots + 6 ≤ R.slots) (hlocks : meth.locks = false)
    (hx : ∀ t : State, s.vm.Alike t.vm → H.size ≤ t.heap.size → (∀ q : Nat, q < H.size → t.heap[q]? = H[q]?) → XC cls s t)
    (hf : ∀ z ∈ locs, free z.base) (hc : cells + 1 ≤ mc) (hs : slots + 6 ≤ ms) :
    W p l e R s m args below meth c H locs cells slots (vx_MQ below Qc XC args s mc ms free) (F0 m pc ls rest) := by
  intro T hT X
  have htr : e.platform.stackTraces = false := (show e.platform.stackTraces = l.stackTraces by rw [X.admits.platform]).trans hl
  have Y := vx_rebase X (R' := { frames := R.frames, locals := R.locals, cells := 1, slots := 6 }) (Nat.le_refl _) (Nat.le_refl _) hRcells hRslots
  obtain ⟨s', hA⟩ : ∃ z, z = (T.setVm s.vm).setFrames (.invoking m args :: below) := ⟨_, rfl⟩
  rw [← hA] at Y
  have hvm : s'.vm = s.vm := by rw [hA]; rfl
  have hhp : s'.heap = H := by rw [hA]; exact hT
  have hW0 : s.WarmedH s'.vm := by rw [hvm]; exact State.WarmedH.refl s
  have hat' : ∀ w ∈ vx_at0 own ic cls names, w.before args s' = true := fun w hw => vx_ot_at hW0 hvm.symm (hgood w (List.mem_cons_of_mem _ (List.mem_cons_of_mem _ hw))) (hat w hw)
  have hk' : (Cond.classLink own ik cls).before args s' = true := vx_ot_at hW0 hvm.symm (hgood _ List.mem_cons_self) hk
  have hini' : (Cond.initialized cls).before args s' = true := vx_ot_at hW0 hvm.symm (hgood _ (List.mem_cons_of_mem _ List.mem_cons_self)) hini
  have hU' : vx_Zq Bundle.tN "UNASSIGNED_STACK" Bundle.steD A s' s'.heap := by rw [hhp]; exact vx_Zq.moved hW0.alike (hU.kept hS.2.1)
  have hN' : vx_Zq Bundle.tN "SUPPRESSED_SENTINEL" Bundle.listD A s' s'.heap := by rw [hhp]; exact vx_Zq.moved hW0.alike (hN.kept hS.2.1)
  have h : ∀ w ∈ Bundle.ownAtoms0 own ic cls names, w.before args s' = true := vx_own hat' (vx_isRefq hU'.1) (vx_isRefq hN'.1) hU'.2.word hN'.2.word
  have hown' : s'.vm.findClass own = some m.cls := by rw [hvm]; exact hown
  have hins : (Cond.instantiable cls 6).before args s' = true := h _ (by simp [Bundle.ownAtoms0])
  obtain ⟨vm₁, cX, kX, hfX, hkX, -, -, X₁, st1⟩ := Y.newCold hexec (own := own) (C := cls) (index := ik) (n := 6) hown' hk' hins hini'
    (g := F0 m pc ls rest) rfl (by rw [hb]; exact d0) (Nat.le_refl _) (Nat.le_refl _)
  generalize hT1 : (T.setVm vm₁).pushCell { cls := cX, slots := kX.instanceTypes.map defaultValue, vm := .none } = T1 at X₁ st1
  have hcat : (Value.ref T.heap.size).category = 1 := rfl
  have hcellA : T1.heap[T.heap.size]? = some (freshCell cX kX) := by rw [← hT1]; exact State.heap_pushCell_size _ _
  have d3' : decode c.code (pc + 3) = .ok (.dup, 1) := by rw [hb]; exact d3
  obtain ⟨U, hsteps, hrun, hend, hW, hsame, ce, hce, hO⟩ := X₁.ctorThrow0 hexec htr (own := own) (cls := cls) (names := names) (ic := ic) hown' hcls hnames h (fun x hx => nomatch hx) hfX hkX hcellA (by rw [hhp, hT]; exact Nat.le_refl _)
    (g := { method := m, pc := pc + 4, locals := ls, stack := .ref T.heap.size :: .ref T.heap.size :: rest, locked := none }) rfl hsize rfl rfl (rest := rest) rfl
    (by rw [hb]; exact d4) (by rw [hb]; exact d7) hout hRframes (by simp only [List.map_cons, List.sum_cons, hcat]; omega) hlocks
  obtain ⟨f1, f2⟩ := vx_frame hsame
  rw [hhp] at f1 f2
  have hWs : s.WarmedH U.vm := State.WarmedH.trans hW0 hW
  have hcl : s.vm.findClass cls = some ce.cls := by
    have h9 := hO.cls
    rw [hvm] at h9
    exact h9
  have hall : s.sameButNew ({ U with vm := s.vm } : State) locs mc ms := by
    subst hA
    obtain ⟨e1, e2⟩ := hsame
    rw [State.setFrames_setFrames] at e1
    have h2 : (T.setVm s.vm).sameButNew ({ U with vm := s.vm } : State) [] (0 + 1) (0 + 6) := ⟨e1, e2⟩
    have h3 := X.same.trans h2
    rw [List.append_nil] at h3
    exact h3.mono hc hs
  refine ⟨U, ?_, .threw T.heap.size, hrun, hend, Or.inr ⟨T.heap.size, rfl, cls, ce, locs, hx U hWs.alike f1 (fun q hq => f2 q hq (fun z hz => nomatch hz)), hce, hO.vm, hcl, hWs, hall, hf⟩⟩
  refine st1 _ ?_
  show Steps p.tables e below (T1.setTop { method := m, pc := pc + 3, locals := ls, stack := .ref T.heap.size :: rest, locked := none }) _
  jvm_step X₁.here [X₁.here.top, hexec, d3', Value.category]
  exact hsteps
/-- 'throw new E("text")': new; dup; ldc; invokespecial; athrow -/
theorem vx_throwS {cc : ByteArray} {pc : Nat} (hexec : p.tables.exec = Jvm.exec) (hb : c.code = cc) (hl : l.stackTraces = false) {own cls text : String} {names : List String} {ik is ic mc ms sa : Nat} {A : Nat → Prop}
    (hown : s.vm.findClass own = some m.cls) (hcls : Bundle.fit cls = true) (hnames : ∀ n ∈ names, Bundle.fit n = true)
    (hk : (Cond.classLink own ik cls).before args s = true) (hini : (Cond.initialized cls).before args s = true) (hstr : vk_R own is text sa s) (hat : ∀ w ∈ vx_atS own ic cls names, w.before args s = true)
    (hgood : ∀ w ∈ Cond.classLink own ik cls :: Cond.initialized cls :: vx_atS own ic cls names, vx_ot w = true)
    (hU : vx_Zq Bundle.tN "UNASSIGNED_STACK" Bundle.steD A s s.heap) (hN : vx_Zq Bundle.tN "SUPPRESSED_SENTINEL" Bundle.listD A s s.heap) (hS : va_S A s.heap H locs) (hsize : ls.size = c.maxLocals)
    (d0 : decode cc pc = .ok (.new ik, 3)) (d3 : decode cc (pc + 3) = .ok (.dup, 1)) (d4 : decode cc (pc + 4) = .ok (.ldc is, 2)) (d6 : decode cc (pc + 6) = .ok (.invokespecial ic, 3)) (d9 : decode cc (pc + 9) = .ok (.athrow, 1))
    (hout : ∀ x ∈ c.exceptionTable.toList, covers x (pc + 9) = false)
    (hRframes : names.length + 3 < R.frames) (hRlocals : (rest.map fun v => v.category).sum + (13 * (names.length + 1) + 43) ≤ R.locals) (hRcells : cells + 1 ≤ R.cells) (hRslots : slots + 6 ≤ R.slots) (hlocks : meth.locks = false)
    (hx : ∀ t : State, s.vm.Alike t.vm → H.size ≤ t.heap.size → (∀ q : Nat, q < H.size → t.heap[q]? = H[q]?) → XC cls s t)
    (hf : ∀ z ∈ locs, free z.base) (hc : cells + 1 ≤ mc) (hs : slots + 6 ≤ ms) :
    W p l e R s m args below meth c H locs cells slots (vx_MQ below Qc XC args s mc ms free) (F0 m pc ls rest) := by
  intro T hT X
  have htr : e.platform.stackTraces = false := (show e.platform.stackTraces = l.stackTraces by rw [X.admits.platform]).trans hl
  have Y := vx_rebase X (R' := { frames := R.frames, locals := R.locals, cells := 1, slots := 6 }) (Nat.le_refl _) (Nat.le_refl _) hRcells hRslots
  obtain ⟨s', hA⟩ : ∃ z, z = (T.setVm s.vm).setFrames (.invoking m args :: below) := ⟨_, rfl⟩
  rw [← hA] at Y
  have hvm : s'.vm = s.vm := by rw [hA]; rfl
  have hhp : s'.heap = H := by rw [hA]; exact hT
  have hW0 : s.WarmedH s'.vm := by rw [hvm]; exact State.WarmedH.refl s
  have hat' : ∀ w ∈ vx_atS own ic cls names, w.before args s' = true := fun w hw => vx_ot_at hW0 hvm.symm (hgood w (List.mem_cons_of_mem _ (List.mem_cons_of_mem _ hw))) (hat w hw)
  have hk' : (Cond.classLink own ik cls).before args s' = true := vx_ot_at hW0 hvm.symm (hgood _ List.mem_cons_self) hk
  have hini' : (Cond.initialized cls).before args s' = true := vx_ot_at hW0 hvm.symm (hgood _ (List.mem_cons_of_mem _ List.mem_cons_self)) hini
  have hU' : vx_Zq Bundle.tN "UNASSIGNED_STACK" Bundle.steD A s' s'.heap := by rw [hhp]; exact vx_Zq.moved hW0.alike (hU.kept hS.2.1)
  have hN' : vx_Zq Bundle.tN "SUPPRESSED_SENTINEL" Bundle.listD A s' s'.heap := by rw [hhp]; exact vx_Zq.moved hW0.alike (hN.kept hS.2.1)
  have h : ∀ w ∈ Bundle.ownAtoms own ic cls names, w.before args s' = true := vx_own hat' (vx_isRefq hU'.1) (vx_isRefq hN'.1) hU'.2.word hN'.2.word
  have hown' : s'.vm.findClass own = some m.cls := by rw [hvm]; exact hown
  have hins : (Cond.instantiable cls 6).before args s' = true := h _ (by simp [Bundle.ownAtoms])
  obtain ⟨vm₁, cX, kX, hfX, hkX, -, -, X₁, st1⟩ := Y.newCold hexec (own := own) (C := cls) (index := ik) (n := 6) hown' hk' hins hini'
    (g := F0 m pc ls rest) rfl (by rw [hb]; exact d0) (Nat.le_refl _) (Nat.le_refl _)
  generalize hT1 : (T.setVm vm₁).pushCell { cls := cX, slots := kX.instanceTypes.map defaultValue, vm := .none } = T1 at X₁ st1
  have hcat : (Value.ref T.heap.size).category = 1 := rfl
  have hcellA : T1.heap[T.heap.size]? = some (freshCell cX kX) := by rw [← hT1]; exact State.heap_pushCell_size _ _
  have d3' : decode c.code (pc + 3) = .ok (.dup, 1) := by rw [hb]; exact d3
  have d4' : decode c.code (pc + 4) = .ok (.ldc is, 2) := by rw [hb]; exact d4
  have hstr' : vk_R own is text sa s' := vk_R.warm hW0 hstr
  obtain ⟨U, hsteps, hrun, hend, hW, hsame, ce, hce, hO⟩ := X₁.ctorThrowS hexec htr (own := own) (cls := cls) (names := names) (ic := ic) hown' hcls hnames h (fun x hx => nomatch hx) hfX hkX hcellA (by rw [hhp, hT]; exact Nat.le_refl _) (msg := .ref sa) rfl
    (g := { method := m, pc := pc + 6, locals := ls, stack := .ref sa :: .ref T.heap.size :: .ref T.heap.size :: rest, locked := none }) rfl hsize rfl rfl (rest := rest) rfl
    (by rw [hb]; exact d6) (by rw [hb]; exact d9) hout hRframes (by simp only [List.map_cons, List.sum_cons, hcat]; omega) hlocks
  obtain ⟨f1, f2⟩ := vx_frame hsame
  rw [hhp] at f1 f2
  have hWs : s.WarmedH U.vm := State.WarmedH.trans hW0 hW
  have hcl : s.vm.findClass cls = some ce.cls := by
    have h9 := hO.cls
    rw [hvm] at h9
    exact h9
  have hall : s.sameButNew ({ U with vm := s.vm } : State) locs mc ms := by
    subst hA
    obtain ⟨e1, e2⟩ := hsame
    rw [State.setFrames_setFrames] at e1
    have h2 : (T.setVm s.vm).sameButNew ({ U with vm := s.vm } : State) [] (0 + 1) (0 + 6) := ⟨e1, e2⟩
    have h3 := X.same.trans h2
    rw [List.append_nil] at h3
    exact h3.mono hc hs
  refine ⟨U, ?_, .threw T.heap.size, hrun, hend, Or.inr ⟨T.heap.size, rfl, cls, ce, locs, hx U hWs.alike f1 (fun q hq => f2 q hq (fun z hz => nomatch hz)), hce, hO.vm, hcl, hWs, hall, hf⟩⟩
  refine st1 _ ?_
  show Steps p.tables e below (T1.setTop { method := m, pc := pc + 3, locals := ls, stack := .ref T.heap.size :: rest, locked := none }) _
  jvm_step X₁.here [X₁.here.top, hexec, d3', Value.category]
  exact X₁.ldcString hexec (own := own) (text := text) (index := is) (a := sa) hown' hstr'.1 hstr'.2
    (g := { method := m, pc := pc + 4, locals := ls, stack := .ref T.heap.size :: .ref T.heap.size :: rest, locked := none }) rfl d4' _ hsteps
/-- 'throw new E("text")', the text by a wide index -/
theorem vx_throwSW {cc : ByteArray} {pc : Nat} (hexec : p.tables.exec = Jvm.exec) (hb : c.code = cc) (hl : l.stackTraces = false) {own cls text : String} {names : List String} {ik is ic mc ms sa : Nat} {A : Nat → Prop}
    (hown : s.vm.findClass own = some m.cls) (hcls : Bundle.fit cls = true) (hnames : ∀ n ∈ names, Bundle.fit n = true)
    (hk : (Cond.classLink own ik cls).before args s = true) (hini : (Cond.initialized cls).before args s = true) (hstr : vk_R own is text sa s) (hat : ∀ w ∈ vx_atS own ic cls names, w.before args s = true)
    (hgood : ∀ w ∈ Cond.classLink own ik cls :: Cond.initialized cls :: vx_atS own ic cls names, vx_ot w = true)
    (hU : vx_Zq Bundle.tN "UNASSIGNED_STACK" Bundle.steD A s s.heap) (hN : vx_Zq Bundle.tN "SUPPRESSED_SENTINEL" Bundle.listD A s s.heap) (hS : va_S A s.heap H locs) (hsize : ls.size = c.maxLocals)
    (d0 : decode cc pc = .ok (.new ik, 3)) (d3 : decode cc (pc + 3) = .ok (.dup, 1)) (d4 : decode cc (pc + 4) = .ok (.ldc_w is, 3)) (d7 : decode cc (pc + 7) = .ok (.invokespecial ic, 3)) (d10 : decode cc (pc + 10) = .ok (.athrow, 1))
    (hout : ∀ x ∈ c.exceptionTable.toList, covers x (pc + 10) = false)
    (hRframes : names.length + 3 < R.frames) (hRlocals : (rest.map fun v => v.category).sum + (13 * (names.length + 1) + 43) ≤ R.locals) (hRcells : cells + 1 ≤ R.cells) (hRslots : slots + 6 ≤ R.slots) (hlocks : meth.locks = false)
    (hx : ∀ t : State, s.vm.Alike t.vm → H.size ≤ t.heap.size → (∀ q : Nat, q < H.size → t.heap[q]? = H[q]?) → XC cls s t)
    (hf : ∀ z ∈ locs, free z.base) (hc : cells + 1 ≤ mc) (hs : slots + 6 ≤ ms) :
    W p l e R s m args below meth c H locs cells slots (vx_MQ below Qc XC args s mc ms free) (F0 m pc ls rest) := by
  intro T hT X
  have htr : e.platform.stackTraces = false := (show e.platform.stackTraces = l.stackTraces by rw [X.admits.platform]).trans hl
  have Y := vx_rebase X (R' := { frames := R.frames, locals := R.locals, cells := 1, slots := 6 }) (Nat.le_refl _) (Nat.le_refl _) hRcells hRslots
  obtain ⟨s', hA⟩ : ∃ z, z = (T.setVm s.vm).setFrames (.invoking m args :: below) := ⟨_, rfl⟩
  rw [← hA] at Y
  have hvm : s'.vm = s.vm := by rw [hA]; rfl
  have hhp : s'.heap = H := by rw [hA]; exact hT
  have hW0 : s.WarmedH s'.vm := by rw [hvm]; exact State.WarmedH.refl s
  have hat' : ∀ w ∈ vx_atS own ic cls names, w.before args s' = true := fun w hw => vx_ot_at hW0 hvm.symm (hgood w (List.mem_cons_of_mem _ (List.mem_cons_of_mem _ hw))) (hat w hw)
  have hk' : (Cond.classLink own ik cls).before args s' = true := vx_ot_at hW0 hvm.symm (hgood _ List.mem_cons_self) hk
  have hini' : (Cond.initialized cls).before args s' = true := vx_ot_at hW0 hvm.symm (hgood _ (List.mem_cons_of_mem _ List.mem_cons_self)) hini
  have hU' : vx_Zq Bundle.tN "UNASSIGNED_STACK" Bundle.steD A s' s'.heap := by rw [hhp]; exact vx_Zq.moved hW0.alike (hU.kept hS.2.1)
  have hN' : vx_Zq Bundle.tN "SUPPRESSED_SENTINEL" Bundle.listD A s' s'.heap := by rw [hhp]; exact vx_Zq.moved hW0.alike (hN.kept hS.2.1)
  have h : ∀ w ∈ Bundle.ownAtoms own ic cls names, w.before args s' = true := vx_own hat' (vx_isRefq hU'.1) (vx_isRefq hN'.1) hU'.2.word hN'.2.word
  have hown' : s'.vm.findClass own = some m.cls := by rw [hvm]; exact hown
  have hins : (Cond.instantiable cls 6).before args s' = true := h _ (by simp [Bundle.ownAtoms])
  obtain ⟨vm₁, cX, kX, hfX, hkX, -, -, X₁, st1⟩ := Y.newCold hexec (own := own) (C := cls) (index := ik) (n := 6) hown' hk' hins hini'
    (g := F0 m pc ls rest) rfl (by rw [hb]; exact d0) (Nat.le_refl _) (Nat.le_refl _)
  generalize hT1 : (T.setVm vm₁).pushCell { cls := cX, slots := kX.instanceTypes.map defaultValue, vm := .none } = T1 at X₁ st1
  have hcat : (Value.ref T.heap.size).category = 1 := rfl
  have hcellA : T1.heap[T.heap.size]? = some (freshCell cX kX) := by rw [← hT1]; exact State.heap_pushCell_size _ _
  have d3' : decode c.code (pc + 3) = .ok (.dup, 1) := by rw [hb]; exact d3
  have d4' : decode c.code (pc + 4) = .ok (.ldc_w is, 3) := by rw [hb]; exact d4
  have hstr' : vk_R own is text sa s' := vk_R.warm hW0 hstr
  obtain ⟨U, hsteps, hrun, hend, hW, hsame, ce, hce, hO⟩ := X₁.ctorThrowS hexec htr (own := own) (cls := cls) (names := names) (ic := ic) hown' hcls hnames h (fun x hx => nomatch hx) hfX hkX hcellA (by rw [hhp, hT]; exact Nat.le_refl _) (msg := .ref sa) rfl
    (g := { method := m, pc := pc + 7, locals := ls, stack := .ref sa :: .ref T.heap.size :: .ref T.heap.size :: rest, locked := none }) rfl hsize rfl rfl (rest := rest) rfl
    (by rw [hb]; exact d7) (by rw [hb]; exact d10) hout hRframes (by simp only [List.map_cons, List.sum_cons, hcat]; omega) hlocks
  obtain ⟨f1, f2⟩ := vx_frame hsame
  rw [hhp] at f1 f2
  have hWs : s.WarmedH U.vm := State.WarmedH.trans hW0 hW
  have hcl : s.vm.findClass cls = some ce.cls := by
    have h9 := hO.cls
    rw [hvm] at h9
    exact h9
  have hall : s.sameButNew ({ U with vm := s.vm } : State) locs mc ms := by
    subst hA
    obtain ⟨e1, e2⟩ := hsame
    rw [State.setFrames_setFrames] at e1
    have h2 : (T.setVm s.vm).sameButNew ({ U with vm := s.vm } : State) [] (0 + 1) (0 + 6) := ⟨e1, e2⟩
    have h3 := X.same.trans h2
    rw [List.append_nil] at h3
    exact h3.mono hc hs
  refine ⟨U, ?_, .threw T.heap.size, hrun, hend, Or.inr ⟨T.heap.size, rfl, cls, ce, locs, hx U hWs.alike f1 (fun q hq => f2 q hq (fun z hz => nomatch hz)), hce, hO.vm, hcl, hWs, hall, hf⟩⟩
  refine st1 _ ?_
  show Steps p.tables e below (T1.setTop { method := m, pc := pc + 3, locals := ls, stack := .ref T.heap.size :: rest, locked := none }) _
  jvm_step X₁.here [X₁.here.top, hexec, d3', Value.category]
  exact X₁.ldcStringW hexec (own := own) (text := text) (index := is) (a := sa) hown' hstr'.1 hstr'.2
    (g := { method := m, pc := pc + 4, locals := ls, stack := .ref T.heap.size :: .ref T.heap.size :: rest, locked := none }) rfl d4' _ hsteps
end Ends
section Bodies
variable {l : Launch}
theorem vx_ofW {y : MethodName} {ws ws' : List Cond} {rm : Room} {Pc : Array Value → State → Prop} {Qc : Array Value → State → Outcome → State → Prop} {XC : String → State → State → Prop} {mc ms : Nat} {free : Addr → Prop} {cc : ByteArray} {maxL : Nat} {ret : Option FieldType}
    (hy : plainName y.cls = true) (hw : ws = Cond.code y cc maxL ret :: ws')
    (body : ∀ p e s m args below meth c s₁, BodyLoose p l y (headSpec ws rm) cc maxL ret e s m args below meth c s₁ → c.maxLocals = maxL → (∀ x ∈ c.exceptionTable.toList, False) → Pc args s →
      W p l e (headSpec ws rm).room s m args below meth c s.heap [] 0 0 (vx_MQ below Qc XC args s mc ms free) (entryFrame m args maxL)) : vx_Met l y ws rm Pc Qc XC mc ms free := by
  refine MetFree.of_bodyS (code := cc) (maxLocals := maxL) (ret := ret) hy ?_ ?_
  · intro args s m h hn
    obtain ⟨meth, c, h1, h2, h3, h4, h5, h6, -, -⟩ := Cond.code_spec hn (atoms_spec (ws := ws) h _ (by rw [hw]; exact List.mem_cons_self))
    exact ⟨meth, c, h1, h2, h3, h4, h5, h6⟩
  · intro p e s m args below meth c s₁ B hml hP _
    have hh0 : s₁.heap = s.heap := by rw [B.state]; rfl
    have ht : ∀ x ∈ c.exceptionTable.toList, False := by
      obtain ⟨meth9, c9, h1, h2, -, -, -, -, h7, -⟩ := Cond.code_spec B.named (atoms_spec (ws := ws) B.pre _ (by rw [hw]; exact List.mem_cons_self))
      cases Option.some.inj (h1.symm.trans B.method)
      cases Option.some.inj (h2.symm.trans (Stand.of_body B).code)
      intro x hx
      rw [Array.isEmpty_iff.mp h7] at hx
      cases hx
    obtain ⟨t, a1, o, b1, b2, b3⟩ := body p e s m args below meth c s₁ B hml ht hP s₁ hh0 (Stand.of_body B)
    exact ⟨t, o, a1, b1, b2, b3⟩
/-- the table of a body with handlers -/
theorem vx_table {p : Program} {x y : MethodName} {S : Spec} {cc bytes : ByteArray} {maxL maxL' : Nat} {ret ret' : Option FieldType} {e : Env} {s s₁ : State} {m : MethodId} {args : Array Value} {below : List Frame} {meth : Method} {c : Code} {hh : List (Nat × Nat × Nat × Nat)}
    (B : BodyLoose p l y S cc maxL ret e s m args below meth c s₁) (h : (Cond.codeWith y bytes maxL' ret' hh).before args s = true) : c.exceptionTable.toList = tableOf hh := by
  obtain ⟨m9, meth9, c9, hn9, h1, h2, -, -, h6, -⟩ := Cond.codeWith_spec h
  cases Option.some.inj (hn9.symm.trans B.named)
  cases Option.some.inj (h1.symm.trans B.method)
  cases Option.some.inj (h2.symm.trans (Stand.of_body B).code)
  rw [← h6, table_eq]
end Bodies
end VXA
/-! ===== END ===== -/
/-! ===== BEGIN a static call of a method with an exception table ===== -/
section VXS
variable {p : Program} {l : Launch} {e : Env} {R : Room} {s : State} {m : MethodId} {args : Array Value} {below : List Frame} {meth : Method} {c : Code} {T : State} {H : Heap} {locs : List Loc} {cells slots : Nat}
abbrev vx_CSW (R : Room) (s : State) (args : Array Value) (own : String) (index : Nat) (y : MethodName) (bytes : ByteArray) (maxL : Nat) (ret : Option FieldType) (hh : List (Nat × Nat × Nat × Nat)) (ws : List Cond) (rm : Room) (mc ms n : Nat) : Prop :=
  (rm.cells = mc ∧ rm.slots = ms ∧ rm.frames + 1 ≤ R.frames ∧ 8 + (maxL + 11) + rm.locals ≤ R.locals ∧ (∀ w ∈ ws, ∀ (a' : Array Value) (U : State), s.WarmedH U.vm → w.before a' U = true) ∧ Cond.codeWith y bytes maxL ret hh ∈ ws) ∧
  (Cond.codeWith y bytes maxL ret hh).before args s = true ∧ (Cond.initialized y.cls).before args s = true ∧ (y.cls ≠ "java/lang/invoke/MethodHandle" ∧ y.cls ≠ "java/lang/invoke/VarHandle") ∧
  (∀ sig, parseMethodDescriptor y.desc = some sig → n = sig.parameters.length) ∧ (Cond.methodLink own index y).before args s = true ∧ (Cond.static y).before args s = true
theorem vx_cwSW {own : String} {index maxL mc ms : Nat} {y : MethodName} {bytes : ByteArray} {ret : Option FieldType} {hh : List (Nat × Nat × Nat × Nat)} {Ts ws ws' : List Cond} {rm : Room} (n : Nat) (ht : ∀ w ∈ Ts, w.before args s = true) (hT : GoodIn Ts (va_wsS own index y ws)) (hw : ws = Cond.codeWith y bytes maxL ret hh :: ws') (hrc : rm.cells = mc) (hrs : rm.slots = ms)
    (hd : y.cls ≠ "java/lang/invoke/MethodHandle" ∧ y.cls ≠ "java/lang/invoke/VarHandle" ∧ (parseMethodDescriptor y.desc).map (fun d => d.parameters.length) = some n) (hR : rm.frames + 1 ≤ R.frames ∧ 8 + (maxL + 11) + rm.locals ≤ R.locals) :
    vx_CSW R s args own index y bytes maxL ret hh ws rm mc ms n := by
  have ok : ∀ w ∈ va_wsS own index y ws, w.before args s = true := fun w h => ht w (hT w h).1
  have hG : GoodIn Ts ws := fun w h => hT w (by unfold va_wsS; exact List.mem_append_right _ h)
  have hc : Cond.codeWith y bytes maxL ret hh ∈ ws := by rw [hw]; exact List.mem_cons_self
  refine ⟨⟨hrc, hrs, hR.1, hR.2, pay_in ht hG, hc⟩, ht _ (hG _ hc).1, ok _ (by simp [va_wsS]), ⟨hd.1, hd.2.1⟩, fun sig h => ?_, ok _ (by simp [va_wsS]), ok _ (by simp [va_wsS])⟩
  have h2 := hd.2.2
  rw [h] at h2
  exact (Option.some.inj h2).symm
theorem vx_callSW (X : Stand p l e R s m args below meth c T locs cells slots) (hexec : p.tables.exec = Jvm.exec) {own : String} {index : Nat} {y : MethodName} {bytes : ByteArray} {maxL : Nat} {ret : Option FieldType} {hh : List (Nat × Nat × Nat × Nat)}
    (hown : s.vm.findClass own = some m.cls) (hlink : (Cond.methodLink own index y).before args s = true) (hstat : (Cond.static y).before args s = true) (hinit : (Cond.initialized y.cls).before args s = true)
    (hcode : (Cond.codeWith y bytes maxL ret hh).before args s = true) (hy : y.cls ≠ "java/lang/invoke/MethodHandle" ∧ y.cls ≠ "java/lang/invoke/VarHandle")
    {W9 : Nat} {Pre : Pt → Array Value → Prop} {Post : Pt → Array Value → Option Value → Pt → Prop} (hK : Back l R p e below s args y 3 W9 Pre Post)
    {g : JFrame} (hg : g.method = m) (hsize : g.locals.size = c.maxLocals) {argsL rest : List Value} (hlen : ∀ sig, parseMethodDescriptor y.desc = some sig → argsL.length = sig.parameters.length)
    (hstack : g.stack = argsL.reverse ++ rest) (hW : 2 * g.monitorRoom + (rest.map fun v => v.category).sum ≤ W9) (hdg : decode c.code g.pc = .ok (.invokestatic index, 3))
    (hpre : ∀ vm₁, s.WarmedH vm₁ → Pre ⟨T.setVm vm₁, locs, cells, slots⟩ argsL.toArray) :
    ∃ (v : Option Value) (vm₁ : Vm) (B : Pt), s.WarmedH vm₁ ∧ Stand p l e R s m args below meth c B.U B.locs B.cells B.slots ∧ Post ⟨T.setVm vm₁, locs, cells, slots⟩ argsL.toArray v B ∧
      ∀ target, Steps p.tables e below (B.U.setTop { g with pc := g.pc + 3, stack := v.toList ++ rest }) target → Steps p.tables e below (T.setTop g) target := by
  obtain ⟨mk, methM, cM, hnamed, hmethM, -, -, -, -, -, -, hsigM⟩ := Cond.codeWith_spec hcode
  have hstatic : methM.isStatic = true := Cond.static_spec hnamed hmethM hstat
  obtain ⟨kP, hkP, -⟩ := className_of_methodNamed hnamed
  have hinitP : kP.init = .initialized := Cond.initialized_spec (findClass_of_methodNamed hnamed) hkP hinit
  obtain ⟨vm₁, X₁, hstep₁⟩ := X.invokestatic hexec hown hlink hnamed hmethM hstatic hkP hinitP hy (g := g) hg (argsL := argsL) (rest := rest) (hlen _ hsigM) hstack hdg
  obtain ⟨v, B, X', hpost, hsteps⟩ := hK m meth c ⟨T.setVm vm₁, locs, cells, slots⟩ { g with stack := rest } (.invokestatic index) mk argsL.toArray X₁ hg hsize hdg hW (X₁.named hnamed) (hpre vm₁ X₁.warmed)
  exact ⟨v, vm₁, B, X₁.warmed, X', hpost, fun target h => hstep₁ _ fun acts => by rw [doInvoke_state]; exact hsteps.trans h⟩
theorem vx_runSW {y : MethodName} {bytes cc : ByteArray} {maxL nL mc ms n index : Nat} {ret : Option FieldType} {hh : List (Nat × Nat × Nat × Nat)} {ws : List Cond} {rm : Room} {Pc : Array Value → State → Prop} {Qc : Array Value → State → Outcome → State → Prop} {free : Addr → Prop} {Ts : List Cond} {own : String} {As rest : List Value} {g : JFrame}
    (S : CallFix p m c cc nL s args Ts own) (hM : Met l y ws rm Pc Qc mc ms free) (cw : vx_CSW R s args own index y bytes maxL ret hh ws rm mc ms n) (hp : PreS s H Pc As)
    (hg : g.method = m) (hn : As.length = n) (hsize : g.locals.size = nL) (hstack : g.stack = As.reverse ++ rest) (hW : 2 * g.monitorRoom + (rest.map fun v => v.category).sum ≤ 8) (hdg : decode cc g.pc = .ok (.invokestatic index, 3)) (hf : cells + mc ≤ R.cells ∧ slots + ms ≤ R.slots) :
    va_Run p l e R s m args below meth c H locs cells slots mc ms g rest (Qc As.toArray) (free) := by
  obtain ⟨⟨hrc, hrs, hfr, hlo, hws, hcw⟩, hcode, hini, hy, hlen, hl, hstt⟩ := cw
  have hK : Back l R p e below s args y 3 8 (PreOf R mc ms Pc) (PostOf Qc mc ms free) := va_backW (hh := hh) (bytes := bytes) (maxL := maxL) (ret := ret) hM hp.1 hrc hrs hfr hlo hws hcw (fun a' U hW => word_at hW (Or.inl (by first | rfl | simp [Cond.onTables, Cond.keeps, Cond.steady])) hini)
  obtain ⟨hx, hb, hml, ho, -⟩ := S
  intro T hT X
  obtain ⟨v, vm₁, ⟨U', l2, c2, s2⟩, hW₁, X', ⟨g', mk, t, L, e1, e2, hq, h1, hL, h2, h3⟩, st⟩ := vx_callSW X hx (hh := hh) (bytes := bytes) (maxL := maxL) (ret := ret) ho hl hstt hini hcode hy hK hg (hsize.trans hml.symm) (argsL := As) (rest := rest) (fun sig h => hn.trans (hlen sig h)) hstack hW (by rw [hb]; exact hdg)
    (fun vm₁ hW₁ => ⟨hf.1, hf.2, hp.2 (T.setVm vm₁) hT hW₁⟩)
  dsimp only [Pt.U, Pt.locs, Pt.cells, Pt.slots] at X' e1 e2 h1 h2 h3 st
  subst h1; subst h2; subst h3
  exact ⟨v, (T.setVm vm₁).calling g' mk As.toArray, t, U', L, hT, X', hL, e1, e2, hq, st⟩
/-- not caught here, past rows that name other classes: it goes on to the caller -/
theorem vx_outP {p : Program} {l : Launch} {e : Env} {R : Room} {s : State} {m : MethodId} {args : Array Value} {below : List Frame} {meth : Method} {c : Code} {H : Heap} {locs : List Loc} {cells slots : Nat} {free : Addr → Prop} {ls : Array Slot} {rest : List Value} {Qc : Array Value → State → Outcome → State → Prop} {XC : String → State → State → Prop}
    {pc : Nat} {own E : String} {ce : Cell} {q : Addr} {mc ms : Nat} (hown : s.vm.findClass own = some m.cls) (hlocks : meth.locks = false)
    (hpass : ∀ z ∈ c.exceptionTable.toList, covers z pc = false ∨ (z.catchType ≠ 0 ∧ ∃ nm : String, (Cond.classLink own z.catchType nm).before args s = true ∧ va_Nc E nm s)) (hcell : H[q]? = some ce) (hv : ce.vm = .none) (hcl : s.vm.findClass E = some ce.cls)
    (hx : ∀ t : State, t.heap = H → s.vm.Alike t.vm → XC E s t) (hf : ∀ z ∈ locs, free z.base) (hc : cells ≤ mc) (hs : slots ≤ ms) :
    vx_W p l e R s m args below meth c H locs cells slots (vx_MQ below Qc XC args s mc ms free) (F0 m pc ls rest) q := by
  intro T hT X
  have hpl : e.platform.magicAccessors = ({} : Platform).magicAccessors := by rw [X.admits.platform]
  obtain ⟨vm', hW', X', st⟩ := X.outThrough hlocks q (g := F0 m pc ls rest) rfl rfl rfl (cell := ce) (by rw [hT]; exact hcell) (by rw [hv]; rfl)
    (by obtain ⟨k9, h9, -⟩ := Vm.findClass_spec hcl; exact ⟨k9, h9⟩) (fun z hz => by
      rcases hpass z hz with h | ⟨hz0, nm, hl1, hn1⟩
      · exact Or.inl h
      · obtain ⟨c6, hc6, hcl6⟩ := Cond.classLink_spec hown hl1 e.platform hpl
        obtain ⟨a8, b8, h1, h2, h3⟩ := hn1
        cases Option.some.inj (h1.symm.trans hcl)
        cases Option.some.inj (h2.symm.trans hc6)
        exact Or.inr ⟨hz0, _, hcl6, h3⟩)
  obtain ⟨g₀, hfr⟩ := X'.frames_eq
  have hcell9 : ((T.setVm vm').setFrames (.throwing q :: below)).heap[q]? = some ce := by
    show T.heap[q]? = some ce
    rw [hT]; exact hcell
  have hend : Ended ((T.setVm vm').setFrames (.throwing q :: below)) below (.threw q) := State.frames_setFrames _ (State.cur_lt_of_frames hfr)
  refine ⟨(T.setVm vm').setFrames (.throwing q :: below), ?_, .threw q, X'.here.running, hend, Or.inr ⟨q, rfl, E, ce, locs, hx _ hT (X'.ends _).1.alike, hcell9, hv, hcl, (X'.ends _).1, (X'.ends _).2.mono hc hs, hf⟩⟩
  rw [X.pushThrowing_eq]
  exact st
/-- a thing of a world lies in the heap -/
theorem vx_lt {D : va_G} {cl : List vw_C} {ws : va_W} {H1 : Heap} (h : va_P D cl ws H1) {k : Nat} {q : Nat × va_E} (hk : ws[k]? = some q) : q.1 < H1.size := (h k q hk).lt
end VXS
/-! ===== END ===== -/
/-! ===== BEGIN methods with a table of their own: called by a name, returning or throwing ===== -/
section VXH
/-! vx_backW, vx_callVX, vx_callSX, vx_callVW, vx_runVW, vx_runVX, vx_runSX, vx_ofWH follow the same proofs as their sisters above (Free/Laws.lean, Shelf42/LK1.lean); vx_outP calls Shelf42/NT130.lean (outThrough). -/
section
variable {l : Launch} {R : Room} {p : Program} {e : Env} {below : List Frame} {s : State} {sargs : Array Value} {y : MethodName} {len W9 : Nat}
theorem vx_backW {ws : List Cond} {rm : Room} {Pc : Array Value → State → Prop} {Qc : Array Value → State → Outcome → State → Prop} {XC : String → State → State → Prop} {mc ms : Nat} {free : Addr → Prop} {bytes : ByteArray} {maxL : Nat} {ret : Option FieldType} {hh : List (Nat × Nat × Nat × Nat)}
    (hM : vx_Met l y ws rm Pc Qc XC mc ms free) (hblind : FrameBlind Pc) (hrc : rm.cells = mc) (hrs : rm.slots = ms)
    (hframes : rm.frames + 1 ≤ R.frames) (hlocals : W9 + (maxL + 11) + rm.locals ≤ R.locals)
    (hws : ∀ w ∈ ws, ∀ a' U, s.WarmedH U.vm → w.before a' U = true) (hcode : Cond.codeWith y bytes maxL ret hh ∈ ws) (hinit : ∀ a' U, s.WarmedH U.vm → (Cond.initialized y.cls).before a' U = true) :
    vx_Back l R p e below s sargs y len W9 (PreOf R mc ms Pc) (PostOf Qc mc ms free) (vx_Post XC mc ms free) := by
  intro m meth c A g ig mk a X hg hsize hdg hW hn hp
  have h1 : (headSpec ws rm).pre.before a A.U = true := atoms_intro fun w hw => hws w hw _ _ X.warmed
  have h2 : (Cond.codeWith y bytes maxL ret hh).before a A.U = true := hws _ hcode _ _ X.warmed
  have h3 : (Cond.initialized y.cls).before a A.U = true := hinit _ _ X.warmed
  have h4 : A.cells + (headSpec ws rm).room.cells ≤ R.cells := by rw [show (headSpec ws rm).room.cells = mc from hrc]; exact hp.1
  have h5 : A.slots + (headSpec ws rm).room.slots ≤ R.slots := by rw [show (headSpec ws rm).room.slots = ms from hrs]; exact hp.2.1
  have hPc : Pc a (A.U.calling g mk a) := hblind _ _ _ _ hp.2.2
  obtain ⟨U, Ls, c0, s0⟩ := A
  dsimp only [Pt.U, Pt.locs, Pt.cells, Pt.slots] at h1 h2 h3 h4 h5 X hn hPc ⊢
  obtain ⟨m9, methY, cY, hn9, hmY, hcY, -, hlY, -⟩ := Cond.codeWith_spec h2
  cases Option.some.inj (hn9.symm.trans hn)
  obtain ⟨kY, hkY, -⟩ := className_of_methodNamed hn
  have hinitY : kY.init = .initialized := Cond.initialized_spec (findClass_of_methodNamed hn) hkY h3
  have h : At U g.method c below := by rw [hg]; exact X.here
  have hlocals9 : W9 + (maxL + 11) + (headSpec ws rm).room.locals ≤ R.locals := hlocals
  have happ : (headSpec ws rm).appliesLoose y e.platform (U.calling g mk a) = true :=
    Spec.appliesLoose_calling (g := g) h hdg hn hkY hinitY
      (X.room_calling (g := g) (R' := (headSpec ws rm).room) hsize hmY hcY hframes (by rw [hlY]; omega) h4 h5) h1
  obtain ⟨mid, hmid⟩ := h.above
  have hfr : (U.setTop g).frames = (.java g :: mid) ++ below := by rw [State.frames_setTop' g h.top, hmid]; rfl
  obtain ⟨o, s₂, hsteps, -, hend, hq⟩ := Steps.callFree hM p X.admits X.cas X.clock (acts := []) hfr happ hPc trivial
  have hq' : vx_Q Qc XC mc ms free a (U.calling g mk a) o s₂ := hq
  rw [State.frames_setTop' g h.top] at hend
  obtain ⟨g₀, hg0⟩ := Option.isSome_iff_exists.mp h.top
  obtain ⟨r, hr⟩ := State.topJava?_eq_some.mp hg0
  have hr' : (({ U with heap := s₂.heap, slotsUsed := s₂.slotsUsed } : State).setVm s₂.vm).frames = .java g₀ :: r := hr
  rcases hq' with ⟨hqc, L, hfe, hL⟩ | ⟨q, rfl, E, ce, L, hx, hce, hcv, hcl, hW₂, hsm, hL⟩
  · obtain ⟨⟨v, rfl⟩, hW₂, e2, q2, q3, q4, q5, q6⟩ := id hfe
    have e3 : s₂ = ({ (U.calling g mk a).setFrames s₂.frames with heap := s₂.heap, slotsUsed := s₂.slotsUsed } : State).setVm s₂.vm := by
      have : s₂ = ({ s₂ with vm := (U.calling g mk a).vm } : State).setVm s₂.vm := rfl
      rw [e2] at this
      exact this
    obtain ⟨c₂, i₂, len₂, hc₂, hd₂, hf₂⟩ := hend
    have hW' : U.WarmedH s₂.vm := hW₂
    have hcc : c₂ = c := by
      have h1 : s₂.code? g.method = U.code? g.method := by
        rw [State.code?_eq, State.code?_eq, hW'.alike.method?]
      exact Option.some.inj (hc₂.symm.trans (h1.trans h.code))
    subst hcc
    have hlen : len₂ = len := by rw [hdg] at hd₂; cases hd₂; rfl
    subst hlen
    have hs₂ : s₂ = (({ U with heap := s₂.heap, slotsUsed := s₂.slotsUsed } : State).setVm s₂.vm).setTop { g with pc := g.pc + len₂, stack := v.toList ++ g.stack } := by
      refine e3.trans ?_
      rw [hf₂, State.calling_eq h.top, State.setFrames_setFrames, State.setTop_of_frames _ hr', hr]
      rfl
    have hsame : U.sameButNew ({ U with heap := s₂.heap, slotsUsed := s₂.slotsUsed } : State) L mc ms := by
      refine ⟨?_, q2, q3, q4, q5, q6⟩
      obtain ⟨t, ht, -⟩ := State.frames_cons hr
      show ({ U with heap := s₂.heap, slotsUsed := s₂.slotsUsed } : State) = { U.setFrames U.frames with heap := s₂.heap, slotsUsed := s₂.slotsUsed }
      rw [State.setFrames_self ht]
    subst hg
    refine Or.inl ⟨v, ⟨(({ U with heap := s₂.heap, slotsUsed := s₂.slotsUsed } : State).setVm s₂.vm), Ls ++ L, c0 + mc, s0 + ms⟩,
      ⟨X.admits, X.cas, X.clock, X.frames, X.room, X.hears, X.method, X.code, (X.here.setHeapUsed s₂.heap s₂.slotsUsed).setVm hW'.alike, X.tail, State.WarmedH.trans X.warmed hW', X.limits, X.bytes, X.same.trans (hsame.setVm s.vm)⟩,
      ⟨g, mk, s₂, L, rfl, rfl, hqc, rfl, hL, rfl, rfl⟩, ?_⟩
    show Steps p.tables e below _ ((({ U with heap := s₂.heap, slotsUsed := s₂.slotsUsed } : State).setVm s₂.vm).setTop { g with pc := g.pc + len₂, stack := v.toList ++ g.stack })
    rw [← hs₂]
    exact hsteps
  · obtain ⟨e2, q2, q3, q4, q5, q6⟩ := id hsm
    have e3 : s₂ = ({ (U.calling g mk a).setFrames s₂.frames with heap := s₂.heap, slotsUsed := s₂.slotsUsed } : State).setVm s₂.vm := by
      have : s₂ = ({ s₂ with vm := (U.calling g mk a).vm } : State).setVm s₂.vm := rfl
      rw [e2] at this
      exact this
    have hf₂ : s₂.frames = .throwing q :: .java g :: U.frames.tail := hend
    have hW' : U.WarmedH s₂.vm := hW₂
    have hs₂ : s₂ = ((({ U with heap := s₂.heap, slotsUsed := s₂.slotsUsed } : State).setVm s₂.vm).setTop g).pushFrame (.throwing q) := by
      refine e3.trans ?_
      rw [hf₂, State.calling_eq h.top, State.setFrames_setFrames, State.pushFrame, State.frames_setTop _ hr', State.setTop_of_frames _ hr', State.setFrames_setFrames, hr]
      rfl
    have hsame : U.sameButNew ({ U with heap := s₂.heap, slotsUsed := s₂.slotsUsed } : State) L mc ms := by
      refine ⟨?_, q2, q3, q4, q5, q6⟩
      obtain ⟨t, ht, -⟩ := State.frames_cons hr
      show ({ U with heap := s₂.heap, slotsUsed := s₂.slotsUsed } : State) = { U.setFrames U.frames with heap := s₂.heap, slotsUsed := s₂.slotsUsed }
      rw [State.setFrames_self ht]
    subst hg
    refine Or.inr ⟨q, ⟨(({ U with heap := s₂.heap, slotsUsed := s₂.slotsUsed } : State).setVm s₂.vm), Ls ++ L, c0 + mc, s0 + ms⟩,
      ⟨X.admits, X.cas, X.clock, X.frames, X.room, X.hears, X.method, X.code, (X.here.setHeapUsed s₂.heap s₂.slotsUsed).setVm hW'.alike, X.tail, State.WarmedH.trans X.warmed hW', X.limits, X.bytes, X.same.trans (hsame.setVm s.vm)⟩,
      ⟨g, mk, s₂, L, E, ce, rfl, rfl, hx, hce, hcv, hcl, rfl, hL, rfl, rfl⟩, ?_⟩
    show Steps p.tables e below _ (((({ U with heap := s₂.heap, slotsUsed := s₂.slotsUsed } : State).setVm s₂.vm).setTop g).pushFrame (.throwing q))
    rw [← hs₂]
    exact hsteps
end
variable {p : Program} {l : Launch} {e : Env} {R : Room} {s : State} {m : MethodId} {args : Array Value} {below : List Frame} {meth : Method} {c : Code} {T : State} {H : Heap} {locs : List Loc} {cells slots : Nat}
theorem vx_callVX (X : Stand p l e R s m args below meth c T locs cells slots) (hexec : p.tables.exec = Jvm.exec) {own C : String} {index : Nat} {y : MethodName} {bytes : ByteArray} {maxL : Nat} {ret : Option FieldType} {hh : List (Nat × Nat × Nat × Nat)}
    (hown : s.vm.findClass own = some m.cls) (hlink : (Cond.methodLink own index y).before args s = true) (hinst : (Cond.instanceMethod y).before args s = true) (hsel : (Cond.selects C y y).before args s = true)
    (hcode : (Cond.codeWith y bytes maxL ret hh).before args s = true) (hy : y.cls ≠ "java/lang/invoke/MethodHandle" ∧ y.cls ≠ "java/lang/invoke/VarHandle")
    {W9 : Nat} {Pre : Pt → Array Value → Prop} {Post : Pt → Array Value → Option Value → Pt → Prop} {PostX : Pt → Array Value → Addr → Pt → Prop} (hK : vx_Back l R p e below s args y 3 W9 Pre Post PostX)
    {b : Addr} {cellB : Cell} (hcell : T.heap[b]? = some cellB) (hobj : cellB.vm.isStatics = false) (hcls : s.vm.findClass C = some cellB.cls)
    {g : JFrame} (hg : g.method = m) (hsize : g.locals.size = c.maxLocals) {argsL rest : List Value} (hlen : ∀ sig, parseMethodDescriptor y.desc = some sig → argsL.length = sig.parameters.length)
    (hstack : g.stack = argsL.reverse ++ .ref b :: rest) (hW : 2 * g.monitorRoom + (rest.map fun v => v.category).sum ≤ W9) (hdg : decode c.code g.pc = .ok (.invokevirtual index, 3))
    (hpre : ∀ vm₁, s.WarmedH vm₁ → Pre ⟨T.setVm vm₁, locs, cells, slots⟩ (Value.ref b :: argsL).toArray) :
    (∃ (v : Option Value) (vm₁ : Vm) (B : Pt), s.WarmedH vm₁ ∧ Stand p l e R s m args below meth c B.U B.locs B.cells B.slots ∧ Post ⟨T.setVm vm₁, locs, cells, slots⟩ (Value.ref b :: argsL).toArray v B ∧
      ∀ target, Steps p.tables e below (B.U.setTop { g with pc := g.pc + 3, stack := v.toList ++ rest }) target → Steps p.tables e below (T.setTop g) target) ∨
    (∃ (q : Addr) (vm₁ : Vm) (B : Pt), s.WarmedH vm₁ ∧ Stand p l e R s m args below meth c B.U B.locs B.cells B.slots ∧ PostX ⟨T.setVm vm₁, locs, cells, slots⟩ (Value.ref b :: argsL).toArray q B ∧
      Steps p.tables e below (T.setTop g) ((B.U.setTop { g with stack := rest }).pushFrame (.throwing q))) := by
  obtain ⟨mk, methM, hnamed, hmethM, hstM, habM⟩ := Cond.instanceMethod_spec hinst
  obtain ⟨m8, methM', cM, hn8, hmethM', -, -, -, -, -, -, hsigM⟩ := Cond.codeWith_spec hcode
  cases Option.some.inj (hn8.symm.trans hnamed)
  cases hmethM.symm.trans hmethM'
  obtain ⟨c2, r2, m2, q1, q2, q3, q4, kP, hkP, hkPi⟩ := Cond.selects_spec hsel
  cases hcls.symm.trans q1
  cases (State.methodFound?_of_named hnamed hy).symm.trans q2
  cases hnamed.symm.trans q3
  have hselP : selectMethod e.platform s.vm cellB.cls mk = .method mk := by rw [Launch.admits_selectMethod X.admits]; exact q4
  obtain ⟨vm₁, X₁, hstep₁⟩ := X.invokevirtual hexec hown hlink hnamed hmethM hstM hkP hkPi hy (a := b) (cell := cellB) hcell
    (fun z h => by rw [h] at hobj; cases hobj) hselP hmethM habM hkP hkPi (g := g) hg (argsL := argsL) (rest := rest) (hlen _ hsigM) hstack hdg
  rcases hK m meth c ⟨T.setVm vm₁, locs, cells, slots⟩ { g with stack := rest } (.invokevirtual index) mk (Value.ref b :: argsL).toArray X₁ hg hsize hdg hW (X₁.named hnamed) (hpre vm₁ X₁.warmed) with ⟨v, B, X', hpost, hsteps⟩ | ⟨q, B, X', hpost, hsteps⟩
  · exact Or.inl ⟨v, vm₁, B, X₁.warmed, X', hpost, fun target h => hstep₁ _ fun acts => by rw [doInvoke_state]; exact hsteps.trans h⟩
  · exact Or.inr ⟨q, vm₁, B, X₁.warmed, X', hpost, hstep₁ _ fun acts => by rw [doInvoke_state]; exact hsteps⟩
theorem vx_callSX (X : Stand p l e R s m args below meth c T locs cells slots) (hexec : p.tables.exec = Jvm.exec) {own : String} {index : Nat} {y : MethodName} {bytes : ByteArray} {maxL : Nat} {ret : Option FieldType} {hh : List (Nat × Nat × Nat × Nat)}
    (hown : s.vm.findClass own = some m.cls) (hlink : (Cond.methodLink own index y).before args s = true) (hstat : (Cond.static y).before args s = true) (hinit : (Cond.initialized y.cls).before args s = true)
    (hcode : (Cond.codeWith y bytes maxL ret hh).before args s = true) (hy : y.cls ≠ "java/lang/invoke/MethodHandle" ∧ y.cls ≠ "java/lang/invoke/VarHandle")
    {W9 : Nat} {Pre : Pt → Array Value → Prop} {Post : Pt → Array Value → Option Value → Pt → Prop} {PostX : Pt → Array Value → Addr → Pt → Prop} (hK : vx_Back l R p e below s args y 3 W9 Pre Post PostX)
    {g : JFrame} (hg : g.method = m) (hsize : g.locals.size = c.maxLocals) {argsL rest : List Value} (hlen : ∀ sig, parseMethodDescriptor y.desc = some sig → argsL.length = sig.parameters.length)
    (hstack : g.stack = argsL.reverse ++ rest) (hW : 2 * g.monitorRoom + (rest.map fun v => v.category).sum ≤ W9) (hdg : decode c.code g.pc = .ok (.invokestatic index, 3))
    (hpre : ∀ vm₁, s.WarmedH vm₁ → Pre ⟨T.setVm vm₁, locs, cells, slots⟩ argsL.toArray) :
    (∃ (v : Option Value) (vm₁ : Vm) (B : Pt), s.WarmedH vm₁ ∧ Stand p l e R s m args below meth c B.U B.locs B.cells B.slots ∧ Post ⟨T.setVm vm₁, locs, cells, slots⟩ argsL.toArray v B ∧
      ∀ target, Steps p.tables e below (B.U.setTop { g with pc := g.pc + 3, stack := v.toList ++ rest }) target → Steps p.tables e below (T.setTop g) target) ∨
    (∃ (q : Addr) (vm₁ : Vm) (B : Pt), s.WarmedH vm₁ ∧ Stand p l e R s m args below meth c B.U B.locs B.cells B.slots ∧ PostX ⟨T.setVm vm₁, locs, cells, slots⟩ argsL.toArray q B ∧
      Steps p.tables e below (T.setTop g) ((B.U.setTop { g with stack := rest }).pushFrame (.throwing q))) := by
  obtain ⟨mk, methM, cM, hnamed, hmethM, -, -, -, -, -, -, hsigM⟩ := Cond.codeWith_spec hcode
  have hstatic : methM.isStatic = true := Cond.static_spec hnamed hmethM hstat
  obtain ⟨kP, hkP, -⟩ := className_of_methodNamed hnamed
  have hinitP : kP.init = .initialized := Cond.initialized_spec (findClass_of_methodNamed hnamed) hkP hinit
  obtain ⟨vm₁, X₁, hstep₁⟩ := X.invokestatic hexec hown hlink hnamed hmethM hstatic hkP hinitP hy (g := g) hg (argsL := argsL) (rest := rest) (hlen _ hsigM) hstack hdg
  rcases hK m meth c ⟨T.setVm vm₁, locs, cells, slots⟩ { g with stack := rest } (.invokestatic index) mk argsL.toArray X₁ hg hsize hdg hW (X₁.named hnamed) (hpre vm₁ X₁.warmed) with ⟨v, B, X', hpost, hsteps⟩ | ⟨q, B, X', hpost, hsteps⟩
  · exact Or.inl ⟨v, vm₁, B, X₁.warmed, X', hpost, fun target h => hstep₁ _ fun acts => by rw [doInvoke_state]; exact hsteps.trans h⟩
  · exact Or.inr ⟨q, vm₁, B, X₁.warmed, X', hpost, hstep₁ _ fun acts => by rw [doInvoke_state]; exact hsteps⟩
theorem vx_callVW (X : Stand p l e R s m args below meth c T locs cells slots) (hexec : p.tables.exec = Jvm.exec) {own C : String} {index : Nat} {y : MethodName} {bytes : ByteArray} {maxL : Nat} {ret : Option FieldType} {hh : List (Nat × Nat × Nat × Nat)}
    (hown : s.vm.findClass own = some m.cls) (hlink : (Cond.methodLink own index y).before args s = true) (hinst : (Cond.instanceMethod y).before args s = true) (hsel : (Cond.selects C y y).before args s = true)
    (hcode : (Cond.codeWith y bytes maxL ret hh).before args s = true) (hy : y.cls ≠ "java/lang/invoke/MethodHandle" ∧ y.cls ≠ "java/lang/invoke/VarHandle")
    {W9 : Nat} {Pre : Pt → Array Value → Prop} {Post : Pt → Array Value → Option Value → Pt → Prop} (hK : Back l R p e below s args y 3 W9 Pre Post)
    {b : Addr} {cellB : Cell} (hcell : T.heap[b]? = some cellB) (hobj : cellB.vm.isStatics = false) (hcls : s.vm.findClass C = some cellB.cls)
    {g : JFrame} (hg : g.method = m) (hsize : g.locals.size = c.maxLocals) {argsL rest : List Value} (hlen : ∀ sig, parseMethodDescriptor y.desc = some sig → argsL.length = sig.parameters.length)
    (hstack : g.stack = argsL.reverse ++ .ref b :: rest) (hW : 2 * g.monitorRoom + (rest.map fun v => v.category).sum ≤ W9) (hdg : decode c.code g.pc = .ok (.invokevirtual index, 3))
    (hpre : ∀ vm₁, s.WarmedH vm₁ → Pre ⟨T.setVm vm₁, locs, cells, slots⟩ (Value.ref b :: argsL).toArray) :
    ∃ (v : Option Value) (vm₁ : Vm) (B : Pt), s.WarmedH vm₁ ∧ Stand p l e R s m args below meth c B.U B.locs B.cells B.slots ∧ Post ⟨T.setVm vm₁, locs, cells, slots⟩ (Value.ref b :: argsL).toArray v B ∧
      ∀ target, Steps p.tables e below (B.U.setTop { g with pc := g.pc + 3, stack := v.toList ++ rest }) target → Steps p.tables e below (T.setTop g) target := by
  obtain ⟨mk, methM, hnamed, hmethM, hstM, habM⟩ := Cond.instanceMethod_spec hinst
  obtain ⟨m8, methM', cM, hn8, hmethM', -, -, -, -, -, -, hsigM⟩ := Cond.codeWith_spec hcode
  cases Option.some.inj (hn8.symm.trans hnamed)
  cases hmethM.symm.trans hmethM'
  obtain ⟨c2, r2, m2, q1, q2, q3, q4, kP, hkP, hkPi⟩ := Cond.selects_spec hsel
  cases hcls.symm.trans q1
  cases (State.methodFound?_of_named hnamed hy).symm.trans q2
  cases hnamed.symm.trans q3
  have hselP : selectMethod e.platform s.vm cellB.cls mk = .method mk := by rw [Launch.admits_selectMethod X.admits]; exact q4
  obtain ⟨vm₁, X₁, hstep₁⟩ := X.invokevirtual hexec hown hlink hnamed hmethM hstM hkP hkPi hy (a := b) (cell := cellB) hcell
    (fun z h => by rw [h] at hobj; cases hobj) hselP hmethM habM hkP hkPi (g := g) hg (argsL := argsL) (rest := rest) (hlen _ hsigM) hstack hdg
  obtain ⟨v, B, X', hpost, hsteps⟩ := hK m meth c ⟨T.setVm vm₁, locs, cells, slots⟩ { g with stack := rest } (.invokevirtual index) mk (Value.ref b :: argsL).toArray X₁ hg hsize hdg hW (X₁.named hnamed) (hpre vm₁ X₁.warmed)
  exact ⟨v, vm₁, B, X₁.warmed, X', hpost, fun target h => hstep₁ _ fun acts => by rw [doInvoke_state]; exact hsteps.trans h⟩
abbrev vx_CVW (R : Room) (s : State) (args : Array Value) (own C : String) (index : Nat) (y : MethodName) (bytes : ByteArray) (maxL : Nat) (ret : Option FieldType) (hh : List (Nat × Nat × Nat × Nat)) (ws : List Cond) (rm : Room) (mc ms n : Nat) : Prop :=
  (rm.cells = mc ∧ rm.slots = ms ∧ rm.frames + 1 ≤ R.frames ∧ 8 + (maxL + 11) + rm.locals ≤ R.locals ∧ (∀ w ∈ ws, ∀ (a' : Array Value) (U : State), s.WarmedH U.vm → w.before a' U = true) ∧ Cond.codeWith y bytes maxL ret hh ∈ ws) ∧
  (Cond.codeWith y bytes maxL ret hh).before args s = true ∧ (Cond.initialized y.cls).before args s = true ∧ (y.cls ≠ "java/lang/invoke/MethodHandle" ∧ y.cls ≠ "java/lang/invoke/VarHandle") ∧
  (∀ sig, parseMethodDescriptor y.desc = some sig → n = sig.parameters.length) ∧ (Cond.methodLink own index y).before args s = true ∧ (Cond.instanceMethod y).before args s = true ∧ (Cond.selects C y y).before args s = true
theorem vx_cwVW {own C : String} {index maxL mc ms : Nat} {y : MethodName} {bytes : ByteArray} {ret : Option FieldType} {hh : List (Nat × Nat × Nat × Nat)} {Ts ws ws' : List Cond} {rm : Room} (n : Nat) (ht : ∀ w ∈ Ts, w.before args s = true) (hT : GoodIn Ts (wsV own index C y ws)) (hw : ws = Cond.codeWith y bytes maxL ret hh :: ws') (hrc : rm.cells = mc) (hrs : rm.slots = ms)
    (hd : y.cls = C ∧ y.cls ≠ "java/lang/invoke/MethodHandle" ∧ y.cls ≠ "java/lang/invoke/VarHandle" ∧ (parseMethodDescriptor y.desc).map (fun d => d.parameters.length) = some n) (hR : rm.frames + 1 ≤ R.frames ∧ 8 + (maxL + 11) + rm.locals ≤ R.locals) :
    vx_CVW R s args own C index y bytes maxL ret hh ws rm mc ms n := by
  obtain ⟨hC, hd⟩ := hd
  subst hC
  have ok : ∀ w ∈ wsV own index y.cls y ws, w.before args s = true := fun w h => ht w (hT w h).1
  have hG : GoodIn Ts ws := fun w h => hT w (by unfold wsV; exact List.mem_append_right _ h)
  have hc : Cond.codeWith y bytes maxL ret hh ∈ ws := by rw [hw]; exact List.mem_cons_self
  refine ⟨⟨hrc, hrs, hR.1, hR.2, pay_in ht hG, hc⟩, ht _ (hG _ hc).1, ok _ (by simp [wsV]), ⟨hd.1, hd.2.1⟩, fun sig h => ?_, ok _ (by simp [wsV]), ok _ (by simp [wsV]), ok _ (by simp [wsV])⟩
  have h2 := hd.2.2
  rw [h] at h2
  exact (Option.some.inj h2).symm
theorem vx_runVW {y : MethodName} {bytes cc : ByteArray} {maxL nL mc ms n index : Nat} {ret : Option FieldType} {hh : List (Nat × Nat × Nat × Nat)} {ws : List Cond} {rm : Room} {Pc : Array Value → State → Prop} {Qc : Array Value → State → Outcome → State → Prop} {free : Addr → Prop} {Ts : List Cond} {own C : String} {b : Addr} {As rest : List Value} {g : JFrame}
    (S : CallFix p m c cc nL s args Ts own) (hM : Met l y ws rm Pc Qc mc ms free) (cw : vx_CVW R s args own C index y bytes maxL ret hh ws rm mc ms n) (hp : PreV s H C b Pc As)
    (hg : g.method = m) (hn : As.length = n) (hsize : g.locals.size = nL) (hstack : g.stack = As.reverse ++ .ref b :: rest) (hW : 2 * g.monitorRoom + (rest.map fun v => v.category).sum ≤ 8) (hdg : decode cc g.pc = .ok (.invokevirtual index, 3)) (hf : cells + mc ≤ R.cells ∧ slots + ms ≤ R.slots) :
    va_Run p l e R s m args below meth c H locs cells slots mc ms g rest (Qc (Value.ref b :: As).toArray) free := by
  obtain ⟨⟨hrc, hrs, hfr, hlo, hws, hcw⟩, hcode, hini, hy, hlen, hl, hin, hse⟩ := cw
  have hK : Back l R p e below s args y 3 8 (PreOf R mc ms Pc) (PostOf Qc mc ms free) := va_backW (hh := hh) (bytes := bytes) (maxL := maxL) (ret := ret) hM hp.1 hrc hrs hfr hlo hws hcw (fun a' U hW => word_at hW (Or.inl (by first | rfl | simp [Cond.onTables, Cond.keeps, Cond.steady])) hini)
  obtain ⟨hx, hb, hml, ho, -⟩ := S
  obtain ⟨-, ⟨cellB, hcB, hoB, hclB⟩, hPc⟩ := hp
  intro T hT X
  obtain ⟨v, vm₁, ⟨U', l2, c2, s2⟩, hW₁, X', ⟨g', mk, t, L, e1, e2, hq, h1, hL, h2, h3⟩, st⟩ := vx_callVW X hx (C := C) (hh := hh) (bytes := bytes) (maxL := maxL) (ret := ret) ho hl hin hse hcode hy hK (by rw [hT]; exact hcB) hoB hclB hg (hsize.trans hml.symm) (argsL := As) (rest := rest) (fun sig h => hn.trans (hlen sig h)) hstack hW (by rw [hb]; exact hdg)
    (fun vm₁ hW₁ => ⟨hf.1, hf.2, hPc (T.setVm vm₁) hT hW₁⟩)
  dsimp only [Pt.U, Pt.locs, Pt.cells, Pt.slots] at X' e1 e2 h1 h2 h3 st
  subst h1; subst h2; subst h3
  exact ⟨v, (T.setVm vm₁).calling g' mk (Value.ref b :: As).toArray, t, U', L, hT, X', hL, e1, e2, hq, st⟩
section
variable {y : MethodName} {bytes cc : ByteArray} {maxL nL mc ms n index : Nat} {ret : Option FieldType} {ws : List Cond} {rm : Room} {Pc : Array Value → State → Prop} {Qc : Array Value → State → Outcome → State → Prop} {XC : String → State → State → Prop} {free : Addr → Prop} {Ts : List Cond} {own C : String} {b : Addr} {As rest : List Value} {g : JFrame}
theorem vx_runVX {hh : List (Nat × Nat × Nat × Nat)} (S : CallFix p m c cc nL s args Ts own) (hM : vx_Met l y ws rm Pc Qc XC mc ms free) (cw : vx_CVW R s args own C index y bytes maxL ret hh ws rm mc ms n) (hp : PreV s H C b Pc As)
    (hg : g.method = m) (hn : As.length = n) (hsize : g.locals.size = nL) (hstack : g.stack = As.reverse ++ .ref b :: rest) (hW : 2 * g.monitorRoom + (rest.map fun v => v.category).sum ≤ 8) (hdg : decode cc g.pc = .ok (.invokevirtual index, 3)) (hf : cells + mc ≤ R.cells ∧ slots + ms ≤ R.slots) :
    vx_Run p l e R s m args below meth c H locs cells slots mc ms g rest (Qc (Value.ref b :: As).toArray) XC free := by
  obtain ⟨⟨hrc, hrs, hfr, hlo, hws, hcw⟩, hcode, hini, hy, hlen, hl, hin, hse⟩ := cw
  have hK : vx_Back l R p e below s args y 3 8 (PreOf R mc ms Pc) (PostOf Qc mc ms free) (vx_Post XC mc ms free) := vx_backW (hh := hh) (bytes := bytes) (maxL := maxL) (ret := ret) hM hp.1 hrc hrs hfr hlo hws hcw (fun a' U hW => word_at hW (Or.inl (by first | rfl | simp [Cond.onTables, Cond.keeps, Cond.steady])) hini)
  obtain ⟨hx, hb, hml, ho, -⟩ := S
  obtain ⟨-, ⟨cellB, hcB, hoB, hclB⟩, hPc⟩ := hp
  intro T hT X
  rcases vx_callVX X hx (C := C) (hh := hh) (bytes := bytes) (maxL := maxL) (ret := ret) ho hl hin hse hcode hy hK (by rw [hT]; exact hcB) hoB hclB hg (hsize.trans hml.symm) (argsL := As) (rest := rest) (fun sig h => hn.trans (hlen sig h)) hstack hW (by rw [hb]; exact hdg)
    (fun vm₁ hW₁ => ⟨hf.1, hf.2, hPc (T.setVm vm₁) hT hW₁⟩) with ⟨v, vm₁, ⟨U', l2, c2, s2⟩, hW₁, X', ⟨g', mk, t, L, e1, e2, hq, h1, hL, h2, h3⟩, st⟩ | ⟨q, vm₁, ⟨U', l2, c2, s2⟩, hW₁, X', ⟨g', mk, t, L, E, ce, e1, e2, hq, hce, hcv, hcl, h1, hL, h2, h3⟩, st⟩
  · dsimp only [Pt.U, Pt.locs, Pt.cells, Pt.slots] at X' e1 e2 h1 h2 h3 st
    subst h1; subst h2; subst h3
    exact Or.inl ⟨v, (T.setVm vm₁).calling g' mk (Value.ref b :: As).toArray, t, U', L, hT, X', hL, e1, e2, hq, st⟩
  · dsimp only [Pt.U, Pt.locs, Pt.cells, Pt.slots] at X' e1 e2 h1 h2 h3 st hcl
    subst h1; subst h2; subst h3
    exact Or.inr ⟨q, (T.setVm vm₁).calling g' mk (Value.ref b :: As).toArray, t, U', L, E, ce, hT, X', hL, e1, e2, hq, hce, hcv, vx_cls hW₁ hcl, st⟩
theorem vx_runSX {hh : List (Nat × Nat × Nat × Nat)} (S : CallFix p m c cc nL s args Ts own) (hM : vx_Met l y ws rm Pc Qc XC mc ms free) (cw : vx_CSW R s args own index y bytes maxL ret hh ws rm mc ms n) (hp : PreS s H Pc As)
    (hg : g.method = m) (hn : As.length = n) (hsize : g.locals.size = nL) (hstack : g.stack = As.reverse ++ rest) (hW : 2 * g.monitorRoom + (rest.map fun v => v.category).sum ≤ 8) (hdg : decode cc g.pc = .ok (.invokestatic index, 3)) (hf : cells + mc ≤ R.cells ∧ slots + ms ≤ R.slots) :
    vx_Run p l e R s m args below meth c H locs cells slots mc ms g rest (Qc As.toArray) XC free := by
  obtain ⟨⟨hrc, hrs, hfr, hlo, hws, hcw⟩, hcode, hini, hy, hlen, hl, hstt⟩ := cw
  have hK : vx_Back l R p e below s args y 3 8 (PreOf R mc ms Pc) (PostOf Qc mc ms free) (vx_Post XC mc ms free) := vx_backW (hh := hh) (bytes := bytes) (maxL := maxL) (ret := ret) hM hp.1 hrc hrs hfr hlo hws hcw (fun a' U hW => word_at hW (Or.inl (by first | rfl | simp [Cond.onTables, Cond.keeps, Cond.steady])) hini)
  obtain ⟨hx, hb, hml, ho, -⟩ := S
  intro T hT X
  rcases vx_callSX X hx (hh := hh) (bytes := bytes) (maxL := maxL) (ret := ret) ho hl hstt hini hcode hy hK hg (hsize.trans hml.symm) (argsL := As) (rest := rest) (fun sig h => hn.trans (hlen sig h)) hstack hW (by rw [hb]; exact hdg)
    (fun vm₁ hW₁ => ⟨hf.1, hf.2, hp.2 (T.setVm vm₁) hT hW₁⟩) with ⟨v, vm₁, ⟨U', l2, c2, s2⟩, hW₁, X', ⟨g', mk, t, L, e1, e2, hq, h1, hL, h2, h3⟩, st⟩ | ⟨q, vm₁, ⟨U', l2, c2, s2⟩, hW₁, X', ⟨g', mk, t, L, E, ce, e1, e2, hq, hce, hcv, hcl, h1, hL, h2, h3⟩, st⟩
  · dsimp only [Pt.U, Pt.locs, Pt.cells, Pt.slots] at X' e1 e2 h1 h2 h3 st
    subst h1; subst h2; subst h3
    exact Or.inl ⟨v, (T.setVm vm₁).calling g' mk As.toArray, t, U', L, hT, X', hL, e1, e2, hq, st⟩
  · dsimp only [Pt.U, Pt.locs, Pt.cells, Pt.slots] at X' e1 e2 h1 h2 h3 st hcl
    subst h1; subst h2; subst h3
    exact Or.inr ⟨q, (T.setVm vm₁).calling g' mk As.toArray, t, U', L, E, ce, hT, X', hL, e1, e2, hq, hce, hcv, vx_cls hW₁ hcl, st⟩
end
end VXH
theorem vx_ofWH {l : Launch} {y : MethodName} {ws ws' : List Cond} {rm : Room} {Pc : Array Value → State → Prop} {Qc : Array Value → State → Outcome → State → Prop} {XC : String → State → State → Prop} {mc ms : Nat} {free : Addr → Prop} {cc : ByteArray} {maxL : Nat} {ret : Option FieldType} {hh : List (Nat × Nat × Nat × Nat)}
    (hy : plainName y.cls = true) (hw : ws = Cond.codeWith y cc maxL ret hh :: ws')
    (body : ∀ p e s m args below meth c s₁, BodyLoose p l y (headSpec ws rm) cc maxL ret e s m args below meth c s₁ → c.maxLocals = maxL → Pc args s →
      W p l e (headSpec ws rm).room s m args below meth c s.heap [] 0 0 (vx_MQ below Qc XC args s mc ms free) (entryFrame m args maxL)) : vx_Met l y ws rm Pc Qc XC mc ms free := by
  refine MetFree.of_bodyS (code := cc) (maxLocals := maxL) (ret := ret) hy ?_ ?_
  · intro args s m h hn
    obtain ⟨m9, meth, c, hn9, h1, h2, h3, h4, -, h5, h6, -⟩ := Cond.codeWith_spec (atoms_spec (ws := ws) h _ (by rw [hw]; exact List.mem_cons_self))
    cases hn.symm.trans hn9
    exact ⟨meth, c, h1, h2, h3, h4, h5, h6⟩
  · intro p e s m args below meth c s₁ B hml hP _
    have hh0 : s₁.heap = s.heap := by rw [B.state]; rfl
    obtain ⟨t, a1, o, b1, b2, b3⟩ := body p e s m args below meth c s₁ B hml hP s₁ hh0 (Stand.of_body B)
    exact ⟨t, o, a1, b1, b2, b3⟩
/-! ===== END ===== -/
end
section
/-! NoSuchElementException's constructor over a text calls its superclass by entry 13 of its pool (the others: by entry 7): its words, and below the walk of 'throw new NoSuchElementException("..")' -/
def nx_n : String := "java/util/NoSuchElementException"
def nx_r : String := "java/lang/RuntimeException"
def nx_six : ByteArray := ⟨#[0x2a, 0x2b, 0xb7, 0x00, 0x0d, 0xb1]⟩
theorem nx_six_0 : decode nx_six 0 = .ok (.aload_n 0, 1) := by decide +kernel
theorem nx_six_1 : decode nx_six 1 = .ok (.aload_n 1, 1) := by decide +kernel
theorem nx_six_2 : decode nx_six 2 = .ok (.invokespecial 13, 3) := by decide +kernel
theorem nx_six_5 : decode nx_six 5 = .ok (.return_, 1) := by decide +kernel
def nx_chain : List Cond := Bundle.passSAtoms nx_n nx_r 13 nx_six ++ Bundle.chainSAtoms nx_r ["java/lang/Exception"]
def nx_own (own : String) (ic : Nat) : List Cond :=
  Bundle.throwableAtoms ++ Bundle.throwableSAtoms ++ nx_chain ++
  [.methodLink own ic (Bundle.initS nx_n), .instantiable nx_n 6, .castable nx_n nx_n, .selects nx_n Bundle.tFill0 Bundle.tFill0, .selects nx_n Bundle.tFill Bundle.tFill,
   .lays nx_n Bundle.tN "cause" "Ljava/lang/Throwable;", .lays nx_n Bundle.tN "stackTrace" Bundle.steD, .lays nx_n Bundle.tN "suppressedExceptions" Bundle.listD, .lays nx_n Bundle.tN "detailMessage" "Ljava/lang/String;",
   .isRef (.static Bundle.tN "UNASSIGNED_STACK" Bundle.steD), .isRef (.static Bundle.tN "SUPPRESSED_SENTINEL" Bundle.listD),
   .fieldLink Bundle.tN 198 Bundle.tN "backtrace" "Ljava/lang/Object;", .lays Bundle.tN Bundle.tN "backtrace" "Ljava/lang/Object;", .lays nx_n Bundle.tN "backtrace" "Ljava/lang/Object;"]
def nx_atS (own : String) (ic : Nat) : List Cond := (nx_own own ic).filter vx_no
end
section
/-! ===== BEGIN printed: names, fields, word lists, decode rows ===== -/
def RX0 : String := "SplicedChain$Link"
def TX0 : u_T := fun k => match k with
  | 0 => ("SplicedChain$Link", "updates", "LSplicedChain$Queue;", true)
  | 1 => ("SplicedChain$Link", "acknowledgements", "LSplicedChain$Queue;", true)
  | _ => ("SplicedChain$Link", "open", "Z", false)
def tyX0 : Nat → FieldType := fun k => match k with
  | 0 => .object "SplicedChain$Queue"
  | 1 => .object "SplicedChain$Queue"
  | _ => .boolean
abbrev wsX00 : List Cond := u_ws RX0 TX0 3
theorem nmX0 : ∀ a, a < 3 → ∀ b, b < 3 → a ≠ b → (TX0 a).2.1 ≠ (TX0 b).2.1 := by decide +kernel
theorem tyX0_ok : ∀ k, k < 3 → parseFieldDescriptor (TX0 k).2.2.1 = some (tyX0 k) := by decide +kernel
abbrev cX0_init : ByteArray := prog_2_method_1_code
def yX0_init : MethodName := ⟨RX0, "<init>", "()V"⟩
abbrev cX0_putUpdate : ByteArray := prog_2_method_2_code
def yX0_putUpdate : MethodName := ⟨RX0, "putUpdate", "(I)V"⟩
abbrev cX0_putAcknowledgement : ByteArray := prog_2_method_3_code
def yX0_putAcknowledgement : MethodName := ⟨RX0, "putAcknowledgement", "(I)V"⟩
abbrev cX0_close : ByteArray := prog_2_method_4_code
def yX0_close : MethodName := ⟨RX0, "close", "()V"⟩
def RX1 : String := "SplicedChain$Node"
def TX1 : u_T := fun k => match k with
  | 0 => ("SplicedChain$Node", "values", "[I", true)
  | 1 => ("SplicedChain$Node", "link", "LSplicedChain$Link;", true)
  | 2 => ("SplicedChain$Node", "history", "I", false)
  | 3 => ("SplicedChain$Node", "acknowledged", "I", false)
  | _ => ("SplicedChain$Node", "failed", "Z", false)
def tyX1 : Nat → FieldType := fun k => match k with
  | 0 => .array .int
  | 1 => .object "SplicedChain$Link"
  | 2 => .int
  | 3 => .int
  | _ => .boolean
abbrev wsX10 : List Cond := u_ws RX1 TX1 5
theorem nmX1 : ∀ a, a < 5 → ∀ b, b < 5 → a ≠ b → (TX1 a).2.1 ≠ (TX1 b).2.1 := by decide +kernel
theorem tyX1_ok : ∀ k, k < 5 → parseFieldDescriptor (TX1 k).2.2.1 = some (tyX1 k) := by decide +kernel
abbrev cX1_init : ByteArray := prog_3_method_1_code
def yX1_init : MethodName := ⟨RX1, "<init>", "()V"⟩
def RX2 : String := "SplicedChain$Queue"
def TX2 : u_T := fun k => match k with
  | 0 => ("SplicedChain$Queue", "numbers", "[I", true)
  | 1 => ("SplicedChain$Queue", "first", "I", false)
  | _ => ("SplicedChain$Queue", "size", "I", false)
def tyX2 : Nat → FieldType := fun k => match k with
  | 0 => .array .int
  | 1 => .int
  | _ => .int
abbrev wsX20 : List Cond := u_ws RX2 TX2 3
theorem nmX2 : ∀ a, a < 3 → ∀ b, b < 3 → a ≠ b → (TX2 a).2.1 ≠ (TX2 b).2.1 := by decide +kernel
theorem tyX2_ok : ∀ k, k < 3 → parseFieldDescriptor (TX2 k).2.2.1 = some (tyX2 k) := by decide +kernel
abbrev cX2_init : ByteArray := prog_4_method_1_code
def yX2_init : MethodName := ⟨RX2, "<init>", "()V"⟩
abbrev cX2_put : ByteArray := prog_4_method_2_code
def yX2_put : MethodName := ⟨RX2, "put", "(I)V"⟩
abbrev cX2_take : ByteArray := prog_4_method_3_code
def yX2_take : MethodName := ⟨RX2, "take", "()I"⟩
abbrev cX2_clear : ByteArray := prog_4_method_4_code
def yX2_clear : MethodName := ⟨RX2, "clear", "()V"⟩
def RX3 : String := "SplicedChain"
def TX3 : u_T := fun k => match k with
  | 0 => ("SplicedChain", "nodes", "[LSplicedChain$Node;", true)
  | 1 => ("SplicedChain", "chain", "[I", true)
  | 2 => ("SplicedChain", "chainLength", "I", false)
  | 3 => ("SplicedChain", "keyOfUpdate", "[I", true)
  | 4 => ("SplicedChain", "valueOfUpdate", "[I", true)
  | _ => ("SplicedChain", "replies", "I", false)
def tyX3 : Nat → FieldType := fun k => match k with
  | 0 => .array (.object "SplicedChain$Node")
  | 1 => .array .int
  | 2 => .int
  | 3 => .array .int
  | 4 => .array .int
  | _ => .int
abbrev wsX30 : List Cond := u_ws RX3 TX3 6
theorem nmX3 : ∀ a, a < 6 → ∀ b, b < 6 → a ≠ b → (TX3 a).2.1 ≠ (TX3 b).2.1 := by decide +kernel
theorem tyX3_ok : ∀ k, k < 6 → parseFieldDescriptor (TX3 k).2.2.1 = some (tyX3 k) := by decide +kernel
abbrev cX3_init : ByteArray := prog_1_method_1_code
def yX3_init : MethodName := ⟨RX3, "<init>", "(I)V"⟩
abbrev cX3_write : ByteArray := prog_1_method_2_code
def yX3_write : MethodName := ⟨RX3, "write", "(II)I"⟩
abbrev cX3_read : ByteArray := prog_1_method_3_code
def yX3_read : MethodName := ⟨RX3, "read", "(I)I"⟩
abbrev cX3_deliver : ByteArray := prog_1_method_4_code
def yX3_deliver : MethodName := ⟨RX3, "deliver", "(I)I"⟩
abbrev cX3_acknowledge : ByteArray := prog_1_method_5_code
def yX3_acknowledge : MethodName := ⟨RX3, "acknowledge", "(I)I"⟩
abbrev cX3_fail : ByteArray := prog_1_method_6_code
def yX3_fail : MethodName := ⟨RX3, "fail", "(I)Z"⟩
abbrev cX3_repair : ByteArray := prog_1_method_7_code
def yX3_repair : MethodName := ⟨RX3, "repair", "()I"⟩
abbrev cX3_resync : ByteArray := prog_1_method_8_code
def yX3_resync : MethodName := ⟨RX3, "resync", "(I)I"⟩
abbrev cX3_replied : ByteArray := prog_1_method_9_code
def yX3_replied : MethodName := ⟨RX3, "replied", "(I)Z"⟩
abbrev cX3_head : ByteArray := prog_1_method_10_code
def yX3_head : MethodName := ⟨RX3, "head", "()I"⟩
abbrev cX3_tail : ByteArray := prog_1_method_11_code
def yX3_tail : MethodName := ⟨RX3, "tail", "()I"⟩
abbrev cX3_valueAt : ByteArray := prog_1_method_12_code
def yX3_valueAt : MethodName := ⟨RX3, "valueAt", "(II)I"⟩
abbrev cX3_history : ByteArray := prog_1_method_13_code
def yX3_history : MethodName := ⟨RX3, "history", "(I)I"⟩
abbrev cX3_sent : ByteArray := prog_1_method_14_code
def yX3_sent : MethodName := ⟨RX3, "sent", "(I)I"⟩
abbrev cX3_waiting : ByteArray := prog_1_method_15_code
def yX3_waiting : MethodName := ⟨RX3, "waiting", "(I)I"⟩
abbrev cX3_lag : ByteArray := prog_1_method_16_code
def yX3_lag : MethodName := ⟨RX3, "lag", "()D"⟩
abbrev cX3_isNode : ByteArray := prog_1_method_17_code
def yX3_isNode : MethodName := ⟨RX3, "isNode", "(I)Z"⟩
abbrev cX3_isKey : ByteArray := prog_1_method_18_code
def yX3_isKey : MethodName := ⟨RX3, "isKey", "(I)Z"⟩
abbrev cX3_nodeAt : ByteArray := prog_1_method_19_code
def yX3_nodeAt : MethodName := ⟨RX3, "nodeAt", "(I)LSplicedChain$Node;"⟩
abbrev cX3_isTailAt : ByteArray := prog_1_method_20_code
def yX3_isTailAt : MethodName := ⟨RX3, "isTailAt", "(I)Z"⟩
abbrev cX3_positionOf : ByteArray := prog_1_method_21_code
def yX3_positionOf : MethodName := ⟨RX3, "positionOf", "(I)I"⟩
abbrev cX3_countStanding : ByteArray := prog_1_method_22_code
def yX3_countStanding : MethodName := ⟨RX3, "countStanding", "()I"⟩
abbrev cX3_updatesTowards : ByteArray := prog_1_method_23_code
def yX3_updatesTowards : MethodName := ⟨RX3, "updatesTowards", "(I)I"⟩
abbrev cX3_acknowledgementsTowards : ByteArray := prog_1_method_24_code
def yX3_acknowledgementsTowards : MethodName := ⟨RX3, "acknowledgementsTowards", "(I)I"⟩
abbrev cX3_applyAt : ByteArray := prog_1_method_25_code
def yX3_applyAt : MethodName := ⟨RX3, "applyAt", "(II)V"⟩
abbrev cX3_acknowledgeAt : ByteArray := prog_1_method_26_code
def yX3_acknowledgeAt : MethodName := ⟨RX3, "acknowledgeAt", "(II)V"⟩
abbrev cX3_acknowledgeAllSentAtTail : ByteArray := prog_1_method_27_code
def yX3_acknowledgeAllSentAtTail : MethodName := ⟨RX3, "acknowledgeAllSentAtTail", "()V"⟩
abbrev cX3_closeLinksAt : ByteArray := prog_1_method_28_code
def yX3_closeLinksAt : MethodName := ⟨RX3, "closeLinksAt", "(I)V"⟩
abbrev cX3_takeOutFailed : ByteArray := prog_1_method_29_code
def yX3_takeOutFailed : MethodName := ⟨RX3, "takeOutFailed", "()V"⟩
abbrev cX3_canResyncAt : ByteArray := prog_1_method_30_code
def yX3_canResyncAt : MethodName := ⟨RX3, "canResyncAt", "(I)Z"⟩
def RX4 : String := "SplicedChainModel"
def TX4 : u_T := fun k => match k with
  | 0 => ("SplicedChainModel", "nodes", "I", false)
  | 1 => ("SplicedChainModel", "thrown", "I", false)
  | 2 => ("SplicedChainModel", "size", "I", false)
  | 3 => ("SplicedChainModel", "chain", "[I", false)
  | 4 => ("SplicedChainModel", "failed", "[Z", false)
  | 5 => ("SplicedChainModel", "open", "[Z", false)
  | 6 => ("SplicedChainModel", "history", "[I", false)
  | 7 => ("SplicedChainModel", "acked", "[I", false)
  | 8 => ("SplicedChainModel", "keys", "[I", false)
  | 9 => ("SplicedChainModel", "values", "[I", false)
  | _ => ("SplicedChainModel", "replies", "I", false)
def tyX4 : Nat → FieldType := fun k => match k with
  | 0 => .int
  | 1 => .int
  | 2 => .int
  | 3 => .array .int
  | 4 => .array .boolean
  | 5 => .array .boolean
  | 6 => .array .int
  | 7 => .array .int
  | 8 => .array .int
  | 9 => .array .int
  | _ => .int
abbrev wsX40 : List Cond := u_ws RX4 TX4 11
theorem nmX4 : ∀ a, a < 11 → ∀ b, b < 11 → a ≠ b → (TX4 a).2.1 ≠ (TX4 b).2.1 := by decide +kernel
theorem tyX4_ok : ∀ k, k < 11 → parseFieldDescriptor (TX4 k).2.2.1 = some (tyX4 k) := by decide +kernel
abbrev cX4_init : ByteArray := prog_6_method_1_code
def yX4_init : MethodName := ⟨RX4, "<init>", "(I)V"⟩
abbrev cX4_thrown : ByteArray := prog_6_method_2_code
def yX4_thrown : MethodName := ⟨RX4, "thrown", "()I"⟩
abbrev cX4_throwsIt : ByteArray := prog_6_method_3_code
def yX4_throwsIt : MethodName := ⟨RX4, "throwsIt", "(I)Z"⟩
abbrev cX4_isNode : ByteArray := prog_6_method_4_code
def yX4_isNode : MethodName := ⟨RX4, "isNode", "(I)Z"⟩
abbrev cX4_placeOf : ByteArray := prog_6_method_5_code
def yX4_placeOf : MethodName := ⟨RX4, "placeOf", "(I)I"⟩
abbrev cX4_first : ByteArray := prog_6_method_6_code
def yX4_first : MethodName := ⟨RX4, "first", "()I"⟩
abbrev cX4_last : ByteArray := prog_6_method_7_code
def yX4_last : MethodName := ⟨RX4, "last", "()I"⟩
abbrev cX4_updatesTo : ByteArray := prog_6_method_8_code
def yX4_updatesTo : MethodName := ⟨RX4, "updatesTo", "(I)I"⟩
abbrev cX4_acksTo : ByteArray := prog_6_method_9_code
def yX4_acksTo : MethodName := ⟨RX4, "acksTo", "(I)I"⟩
abbrev cX4_apply : ByteArray := prog_6_method_10_code
def yX4_apply : MethodName := ⟨RX4, "apply", "(III)V"⟩
abbrev cX4_valueOf : ByteArray := prog_6_method_11_code
def yX4_valueOf : MethodName := ⟨RX4, "valueOf", "(II)I"⟩
abbrev cX4_write : ByteArray := prog_6_method_12_code
def yX4_write : MethodName := ⟨RX4, "write", "(II)I"⟩
abbrev cX4_read : ByteArray := prog_6_method_13_code
def yX4_read : MethodName := ⟨RX4, "read", "(I)I"⟩
abbrev cX4_deliver : ByteArray := prog_6_method_14_code
def yX4_deliver : MethodName := ⟨RX4, "deliver", "(I)I"⟩
abbrev cX4_acknowledge : ByteArray := prog_6_method_15_code
def yX4_acknowledge : MethodName := ⟨RX4, "acknowledge", "(I)I"⟩
abbrev cX4_fail : ByteArray := prog_6_method_16_code
def yX4_fail : MethodName := ⟨RX4, "fail", "(I)Z"⟩
abbrev cX4_repair : ByteArray := prog_6_method_17_code
def yX4_repair : MethodName := ⟨RX4, "repair", "()I"⟩
abbrev cX4_resync : ByteArray := prog_6_method_18_code
def yX4_resync : MethodName := ⟨RX4, "resync", "(I)I"⟩
abbrev cX4_replied : ByteArray := prog_6_method_19_code
def yX4_replied : MethodName := ⟨RX4, "replied", "(I)Z"⟩
abbrev cX4_head : ByteArray := prog_6_method_20_code
def yX4_head : MethodName := ⟨RX4, "head", "()I"⟩
abbrev cX4_tail : ByteArray := prog_6_method_21_code
def yX4_tail : MethodName := ⟨RX4, "tail", "()I"⟩
abbrev cX4_valueAt : ByteArray := prog_6_method_22_code
def yX4_valueAt : MethodName := ⟨RX4, "valueAt", "(II)I"⟩
abbrev cX4_history : ByteArray := prog_6_method_23_code
def yX4_history : MethodName := ⟨RX4, "history", "(I)I"⟩
abbrev cX4_sent : ByteArray := prog_6_method_24_code
def yX4_sent : MethodName := ⟨RX4, "sent", "(I)I"⟩
abbrev cX4_waiting : ByteArray := prog_6_method_25_code
def yX4_waiting : MethodName := ⟨RX4, "waiting", "(I)I"⟩
abbrev cX4_lag : ByteArray := prog_6_method_26_code
def yX4_lag : MethodName := ⟨RX4, "lag", "()D"⟩
def RJx145de : String := "java/io/Serializable"
def TJx145de : u_T := fun k => match k with
  | _ => ("", "", "", false)
def tyJx145de : Nat → FieldType := fun k => match k with
  | _ => .int
abbrev wsJx145de0 : List Cond := u_ws RJx145de TJx145de 0
theorem nmJx145de : ∀ a, a < 0 → ∀ b, b < 0 → a ≠ b → (TJx145de a).2.1 ≠ (TJx145de b).2.1 := by decide +kernel
theorem tyJx145de_ok : ∀ k, k < 0 → parseFieldDescriptor (TJx145de k).2.2.1 = some (tyJx145de k) := by decide +kernel
def RJ9 : String := "java/lang/Math"
def TJ9 : u_T := fun k => match k with
  | _ => ("", "", "", false)
def tyJ9 : Nat → FieldType := fun k => match k with
  | _ => .int
abbrev wsJ90 : List Cond := u_ws RJ9 TJ9 0
theorem nmJ9 : ∀ a, a < 0 → ∀ b, b < 0 → a ≠ b → (TJ9 a).2.1 ≠ (TJ9 b).2.1 := by decide +kernel
theorem tyJ9_ok : ∀ k, k < 0 → parseFieldDescriptor (TJ9 k).2.2.1 = some (tyJ9 k) := by decide +kernel
abbrev cJ9_max_7cf53 : ByteArray := prog_11_method_65_code
def yJ9_max_7cf53 : MethodName := ⟨RJ9, "max", "(II)I"⟩
def RJ0 : String := "java/lang/String"
def TJ0 : u_T := fun k => match k with
  | _ => ("", "", "", false)
def tyJ0 : Nat → FieldType := fun k => match k with
  | _ => .int
abbrev wsJ00 : List Cond := u_ws RJ0 TJ0 0
theorem nmJ0 : ∀ a, a < 0 → ∀ b, b < 0 → a ≠ b → (TJ0 a).2.1 ≠ (TJ0 b).2.1 := by decide +kernel
theorem tyJ0_ok : ∀ k, k < 0 → parseFieldDescriptor (TJ0 k).2.2.1 = some (tyJ0 k) := by decide +kernel
def RL : String := "SplicedChainLaw"
abbrev cL_cell : ByteArray := method_2_code
def yL_cell : MethodName := ⟨RL, "cell", "([II)I"⟩
abbrev cL_write : ByteArray := method_3_code
def yL_write : MethodName := ⟨RL, "write", "(LSplicedChain;II[J)I"⟩
abbrev cL_read : ByteArray := method_4_code
def yL_read : MethodName := ⟨RL, "read", "(LSplicedChain;I[J)I"⟩
abbrev cL_deliver : ByteArray := method_5_code
def yL_deliver : MethodName := ⟨RL, "deliver", "(LSplicedChain;I[J)I"⟩
abbrev cL_acknowledge : ByteArray := method_6_code
def yL_acknowledge : MethodName := ⟨RL, "acknowledge", "(LSplicedChain;I[J)I"⟩
abbrev cL_fail : ByteArray := method_7_code
def yL_fail : MethodName := ⟨RL, "fail", "(LSplicedChain;I[J)I"⟩
abbrev cL_resync : ByteArray := method_8_code
def yL_resync : MethodName := ⟨RL, "resync", "(LSplicedChain;I[J)I"⟩
abbrev cL_valueAt : ByteArray := method_9_code
def yL_valueAt : MethodName := ⟨RL, "valueAt", "(LSplicedChain;II[J)I"⟩
abbrev cL_history : ByteArray := method_10_code
def yL_history : MethodName := ⟨RL, "history", "(LSplicedChain;I[J)I"⟩
abbrev cL_sent : ByteArray := method_11_code
def yL_sent : MethodName := ⟨RL, "sent", "(LSplicedChain;I[J)I"⟩
abbrev cL_waiting : ByteArray := method_12_code
def yL_waiting : MethodName := ⟨RL, "waiting", "(LSplicedChain;I[J)I"⟩
abbrev cL_law : ByteArray := code
def yL_law : MethodName := ⟨RL, "law", "([I)Z"⟩
def wsX2_init : List Cond := .code yX2_init cX2_init 1 none :: ([.methodLink RX2 3 objectInit, .instanceMethod objectInit, .code objectInit ⟨#[0xb1]⟩ 1 none, .arrayClass .int, .fieldLink RX2 9 "SplicedChain$Queue" "numbers" "[I", .fieldLink RX2 15 "SplicedChain$Queue" "first" "I", .fieldLink RX2 19 "SplicedChain$Queue" "size" "I"] ++ wsX20)
def wsX0_init : List Cond := .code yX0_init cX0_init 1 none :: ([.methodLink RX0 1 objectInit, .instanceMethod objectInit, .code objectInit ⟨#[0xb1]⟩ 1 none, .classLink RX0 7 RX2, .instantiable RX2 3, .initialized RX2, .fieldLink RX0 10 "SplicedChain$Link" "updates" "LSplicedChain$Queue;", .fieldLink RX0 16 "SplicedChain$Link" "acknowledgements" "LSplicedChain$Queue;", .fieldLink RX0 19 "SplicedChain$Link" "open" "Z", .instanceMethod yX2_init, .code yX2_init cX2_init 1 none, .methodLink RX2 3 objectInit, .arrayClass .int, .fieldLink RX2 9 "SplicedChain$Queue" "numbers" "[I", .fieldLink RX2 15 "SplicedChain$Queue" "first" "I", .fieldLink RX2 19 "SplicedChain$Queue" "size" "I"] ++ wsX20 ++ wsX00)
def wsX2_put : List Cond := .code yX2_put cX2_put 2 none :: ([.fieldLink RX2 19 "SplicedChain$Queue" "size" "I", .fieldLink RX2 9 "SplicedChain$Queue" "numbers" "[I", .fieldLink RX2 15 "SplicedChain$Queue" "first" "I"] ++ wsX20)
def wsX0_putUpdate : List Cond := .code yX0_putUpdate cX0_putUpdate 2 none :: ([.fieldLink RX0 19 "SplicedChain$Link" "open" "Z", .fieldLink RX0 10 "SplicedChain$Link" "updates" "LSplicedChain$Queue;", .methodLink RX0 23 yX2_put, .instanceMethod yX2_put, .selects RX2 yX2_put yX2_put, .initialized RX2, .code yX2_put cX2_put 2 none, .fieldLink RX2 19 "SplicedChain$Queue" "size" "I", .fieldLink RX2 9 "SplicedChain$Queue" "numbers" "[I", .fieldLink RX2 15 "SplicedChain$Queue" "first" "I"] ++ wsX00 ++ wsX20)
def wsX0_putAcknowledgement : List Cond := .code yX0_putAcknowledgement cX0_putAcknowledgement 2 none :: ([.fieldLink RX0 19 "SplicedChain$Link" "open" "Z", .fieldLink RX0 16 "SplicedChain$Link" "acknowledgements" "LSplicedChain$Queue;", .methodLink RX0 23 yX2_put, .instanceMethod yX2_put, .selects RX2 yX2_put yX2_put, .initialized RX2, .code yX2_put cX2_put 2 none, .fieldLink RX2 19 "SplicedChain$Queue" "size" "I", .fieldLink RX2 9 "SplicedChain$Queue" "numbers" "[I", .fieldLink RX2 15 "SplicedChain$Queue" "first" "I"] ++ wsX00 ++ wsX20)
def wsX2_clear : List Cond := .code yX2_clear cX2_clear 1 none :: ([.fieldLink RX2 19 "SplicedChain$Queue" "size" "I"] ++ wsX20)
def wsX0_close : List Cond := .code yX0_close cX0_close 1 none :: ([.fieldLink RX0 19 "SplicedChain$Link" "open" "Z", .fieldLink RX0 10 "SplicedChain$Link" "updates" "LSplicedChain$Queue;", .fieldLink RX0 16 "SplicedChain$Link" "acknowledgements" "LSplicedChain$Queue;", .methodLink RX0 27 yX2_clear, .instanceMethod yX2_clear, .selects RX2 yX2_clear yX2_clear, .initialized RX2, .code yX2_clear cX2_clear 1 none, .fieldLink RX2 19 "SplicedChain$Queue" "size" "I"] ++ wsX00 ++ wsX20)
def wsX1_init_r1 : List Cond := [Cond.methodLink RX1 3 objectInit, Cond.instanceMethod objectInit, Cond.code objectInit ⟨#[0xb1]⟩ 1 none, Cond.arrayClass .int, Cond.fieldLink RX1 9 "SplicedChain$Node" "values" "[I", Cond.classLink RX1 15 RX0, Cond.instantiable RX0 3, Cond.initialized RX0, Cond.fieldLink RX1 18 "SplicedChain$Node" "link" "LSplicedChain$Link;", Cond.fieldLink RX1 22 "SplicedChain$Node" "history" "I", Cond.fieldLink RX1 26 "SplicedChain$Node" "acknowledged" "I", Cond.fieldLink RX1 29 "SplicedChain$Node" "failed" "Z", Cond.instanceMethod yX0_init, Cond.code yX0_init cX0_init 1 none, Cond.methodLink RX0 1 objectInit, Cond.classLink RX0 7 RX2, Cond.instantiable RX2 3, Cond.initialized RX2, Cond.fieldLink RX0 10 "SplicedChain$Link" "updates" "LSplicedChain$Queue;", Cond.fieldLink RX0 16 "SplicedChain$Link" "acknowledgements" "LSplicedChain$Queue;", Cond.fieldLink RX0 19 "SplicedChain$Link" "open" "Z", Cond.instanceMethod yX2_init, Cond.code yX2_init cX2_init 1 none, Cond.methodLink RX2 3 objectInit]
def wsX1_init_r2 : List Cond := [Cond.fieldLink RX2 9 "SplicedChain$Queue" "numbers" "[I", Cond.fieldLink RX2 15 "SplicedChain$Queue" "first" "I", Cond.fieldLink RX2 19 "SplicedChain$Queue" "size" "I"]
def wsX1_init : List Cond := .code yX1_init cX1_init 1 none :: ((wsX1_init_r1 ++ wsX1_init_r2) ++ wsX10 ++ wsX00 ++ wsX20)
def wsX2_take : List Cond := .code yX2_take cX2_take 2 (some .int) :: ([.fieldLink RX2 9 "SplicedChain$Queue" "numbers" "[I", .fieldLink RX2 15 "SplicedChain$Queue" "first" "I", .fieldLink RX2 19 "SplicedChain$Queue" "size" "I"] ++ wsX20)
def wsX3_init_r1 : List Cond := [Cond.methodLink RX3 1 objectInit, Cond.instanceMethod objectInit, Cond.code objectInit ⟨#[0xb1]⟩ 1 none, Cond.arrayClass .int, Cond.fieldLink RX3 9 "SplicedChain" "keyOfUpdate" "[I", Cond.fieldLink RX3 13 "SplicedChain" "valueOfUpdate" "[I", Cond.fieldLink RX3 16 "SplicedChain" "replies" "I", Cond.classLink RX3 20 RX1, Cond.fieldLink RX3 22 "SplicedChain" "nodes" "[LSplicedChain$Node;", Cond.fieldLink RX3 26 "SplicedChain" "chain" "[I", Cond.fieldLink RX3 29 "SplicedChain" "chainLength" "I", Cond.instantiable RX1 5, Cond.initialized RX1, Cond.instanceMethod yX1_init, Cond.code yX1_init cX1_init 1 none, Cond.methodLink RX1 3 objectInit, Cond.fieldLink RX1 9 "SplicedChain$Node" "values" "[I", Cond.classLink RX1 15 RX0, Cond.instantiable RX0 3, Cond.initialized RX0, Cond.fieldLink RX1 18 "SplicedChain$Node" "link" "LSplicedChain$Link;", Cond.fieldLink RX1 22 "SplicedChain$Node" "history" "I", Cond.fieldLink RX1 26 "SplicedChain$Node" "acknowledged" "I", Cond.fieldLink RX1 29 "SplicedChain$Node" "failed" "Z"]
def wsX3_init_r2 : List Cond := [Cond.instanceMethod yX0_init, Cond.code yX0_init cX0_init 1 none, Cond.methodLink RX0 1 objectInit, Cond.classLink RX0 7 RX2, Cond.instantiable RX2 3, Cond.initialized RX2, Cond.fieldLink RX0 10 "SplicedChain$Link" "updates" "LSplicedChain$Queue;", Cond.fieldLink RX0 16 "SplicedChain$Link" "acknowledgements" "LSplicedChain$Queue;", Cond.fieldLink RX0 19 "SplicedChain$Link" "open" "Z", Cond.instanceMethod yX2_init, Cond.code yX2_init cX2_init 1 none, Cond.methodLink RX2 3 objectInit, Cond.fieldLink RX2 9 "SplicedChain$Queue" "numbers" "[I", Cond.fieldLink RX2 15 "SplicedChain$Queue" "first" "I", Cond.fieldLink RX2 19 "SplicedChain$Queue" "size" "I"]
def wsX3_init : List Cond := .code yX3_init cX3_init 4 none :: ((wsX3_init_r1 ++ wsX3_init_r2) ++ wsX30 ++ wsX10 ++ wsX00 ++ wsX20)
def wsX3_isKey : List Cond := .code yX3_isKey cX3_isKey 1 (some .boolean) :: ([])
def wsX3_nodeAt : List Cond := .code yX3_nodeAt cX3_nodeAt 2 (some (.object "SplicedChain$Node")) :: ([.fieldLink RX3 22 "SplicedChain" "nodes" "[LSplicedChain$Node;", .fieldLink RX3 26 "SplicedChain" "chain" "[I"] ++ wsX30)
def wsX3_isTailAt : List Cond := .code yX3_isTailAt cX3_isTailAt 2 (some .boolean) :: ([.fieldLink RX3 29 "SplicedChain" "chainLength" "I"] ++ wsX30)
def wsX3_acknowledgeAt_r1 : List Cond := [Cond.fieldLink RX3 16 "SplicedChain" "replies" "I", Cond.methodLink RX3 44 yX3_nodeAt, Cond.instanceMethod yX3_nodeAt, Cond.selects RX3 yX3_nodeAt yX3_nodeAt, Cond.initialized RX3, Cond.code yX3_nodeAt cX3_nodeAt 2 (some (.object "SplicedChain$Node")), Cond.fieldLink RX3 22 "SplicedChain" "nodes" "[LSplicedChain$Node;", Cond.fieldLink RX3 26 "SplicedChain" "chain" "[I", Cond.methodLink RX3 159 yX3_isTailAt, Cond.instanceMethod yX3_isTailAt, Cond.selects RX3 yX3_isTailAt yX3_isTailAt, Cond.code yX3_isTailAt cX3_isTailAt 2 (some .boolean), Cond.fieldLink RX3 29 "SplicedChain" "chainLength" "I", Cond.methodLink RX3 151 yX0_putAcknowledgement, Cond.instanceMethod yX0_putAcknowledgement, Cond.selects RX0 yX0_putAcknowledgement yX0_putAcknowledgement, Cond.initialized RX0, Cond.code yX0_putAcknowledgement cX0_putAcknowledgement 2 none, Cond.fieldLink RX0 19 "SplicedChain$Link" "open" "Z", Cond.fieldLink RX0 16 "SplicedChain$Link" "acknowledgements" "LSplicedChain$Queue;", Cond.methodLink RX0 23 yX2_put, Cond.instanceMethod yX2_put, Cond.selects RX2 yX2_put yX2_put, Cond.initialized RX2]
def wsX3_acknowledgeAt_r2 : List Cond := [Cond.code yX2_put cX2_put 2 none, Cond.fieldLink RX2 19 "SplicedChain$Queue" "size" "I", Cond.fieldLink RX2 9 "SplicedChain$Queue" "numbers" "[I", Cond.fieldLink RX2 15 "SplicedChain$Queue" "first" "I"]
def wsX3_acknowledgeAt : List Cond := .code yX3_acknowledgeAt cX3_acknowledgeAt 3 none :: ((wsX3_acknowledgeAt_r1 ++ wsX3_acknowledgeAt_r2) ++ wsX10 ++ wsX30 ++ wsX00 ++ wsX20)
def wsX3_applyAt_r1 : List Cond := [Cond.fieldLink RX3 9 "SplicedChain" "keyOfUpdate" "[I", Cond.fieldLink RX3 13 "SplicedChain" "valueOfUpdate" "[I", Cond.methodLink RX3 44 yX3_nodeAt, Cond.instanceMethod yX3_nodeAt, Cond.selects RX3 yX3_nodeAt yX3_nodeAt, Cond.initialized RX3, Cond.code yX3_nodeAt cX3_nodeAt 2 (some (.object "SplicedChain$Node")), Cond.fieldLink RX3 22 "SplicedChain" "nodes" "[LSplicedChain$Node;", Cond.fieldLink RX3 26 "SplicedChain" "chain" "[I", Cond.methodLink RX3 159 yX3_isTailAt, Cond.instanceMethod yX3_isTailAt, Cond.selects RX3 yX3_isTailAt yX3_isTailAt, Cond.code yX3_isTailAt cX3_isTailAt 2 (some .boolean), Cond.fieldLink RX3 29 "SplicedChain" "chainLength" "I", Cond.methodLink RX3 112 yX3_acknowledgeAt, Cond.instanceMethod yX3_acknowledgeAt, Cond.selects RX3 yX3_acknowledgeAt yX3_acknowledgeAt, Cond.code yX3_acknowledgeAt cX3_acknowledgeAt 3 none, Cond.fieldLink RX3 16 "SplicedChain" "replies" "I", Cond.methodLink RX3 151 yX0_putAcknowledgement, Cond.instanceMethod yX0_putAcknowledgement, Cond.selects RX0 yX0_putAcknowledgement yX0_putAcknowledgement, Cond.initialized RX0, Cond.code yX0_putAcknowledgement cX0_putAcknowledgement 2 none]
def wsX3_applyAt_r2 : List Cond := [Cond.fieldLink RX0 19 "SplicedChain$Link" "open" "Z", Cond.fieldLink RX0 16 "SplicedChain$Link" "acknowledgements" "LSplicedChain$Queue;", Cond.methodLink RX0 23 yX2_put, Cond.instanceMethod yX2_put, Cond.selects RX2 yX2_put yX2_put, Cond.initialized RX2, Cond.code yX2_put cX2_put 2 none, Cond.fieldLink RX2 19 "SplicedChain$Queue" "size" "I", Cond.fieldLink RX2 9 "SplicedChain$Queue" "numbers" "[I", Cond.fieldLink RX2 15 "SplicedChain$Queue" "first" "I", Cond.methodLink RX3 148 yX0_putUpdate, Cond.instanceMethod yX0_putUpdate, Cond.selects RX0 yX0_putUpdate yX0_putUpdate, Cond.code yX0_putUpdate cX0_putUpdate 2 none, Cond.fieldLink RX0 10 "SplicedChain$Link" "updates" "LSplicedChain$Queue;"]
def wsX3_applyAt : List Cond := .code yX3_applyAt cX3_applyAt 4 none :: ((wsX3_applyAt_r1 ++ wsX3_applyAt_r2) ++ wsX10 ++ wsX30 ++ wsX00 ++ wsX20)
def wsX3_write_r1 : List Cond := [Cond.classLink RX3 37 "java/lang/IllegalArgumentException", Cond.initialized "java/lang/IllegalArgumentException", Cond.classLink RX3 55 "java/lang/IllegalStateException", Cond.initialized "java/lang/IllegalStateException", Cond.fieldLink RX3 9 "SplicedChain" "keyOfUpdate" "[I", Cond.fieldLink RX3 13 "SplicedChain" "valueOfUpdate" "[I", Cond.methodLink RX3 33 yX3_isKey, Cond.static yX3_isKey, Cond.initialized RX3, Cond.code yX3_isKey cX3_isKey 1 (some .boolean), Cond.methodLink RX3 44 yX3_nodeAt, Cond.instanceMethod yX3_nodeAt, Cond.selects RX3 yX3_nodeAt yX3_nodeAt, Cond.code yX3_nodeAt cX3_nodeAt 2 (some (.object "SplicedChain$Node")), Cond.fieldLink RX3 22 "SplicedChain" "nodes" "[LSplicedChain$Node;", Cond.fieldLink RX3 26 "SplicedChain" "chain" "[I", Cond.methodLink RX3 60 yX3_applyAt, Cond.instanceMethod yX3_applyAt, Cond.selects RX3 yX3_applyAt yX3_applyAt, Cond.code yX3_applyAt cX3_applyAt 4 none, Cond.methodLink RX3 159 yX3_isTailAt, Cond.instanceMethod yX3_isTailAt, Cond.selects RX3 yX3_isTailAt yX3_isTailAt, Cond.code yX3_isTailAt cX3_isTailAt 2 (some .boolean)]
def wsX3_write_r2 : List Cond := [Cond.fieldLink RX3 29 "SplicedChain" "chainLength" "I", Cond.methodLink RX3 112 yX3_acknowledgeAt, Cond.instanceMethod yX3_acknowledgeAt, Cond.selects RX3 yX3_acknowledgeAt yX3_acknowledgeAt, Cond.code yX3_acknowledgeAt cX3_acknowledgeAt 3 none, Cond.fieldLink RX3 16 "SplicedChain" "replies" "I", Cond.methodLink RX3 151 yX0_putAcknowledgement, Cond.instanceMethod yX0_putAcknowledgement, Cond.selects RX0 yX0_putAcknowledgement yX0_putAcknowledgement, Cond.initialized RX0, Cond.code yX0_putAcknowledgement cX0_putAcknowledgement 2 none, Cond.fieldLink RX0 19 "SplicedChain$Link" "open" "Z", Cond.fieldLink RX0 16 "SplicedChain$Link" "acknowledgements" "LSplicedChain$Queue;", Cond.methodLink RX0 23 yX2_put, Cond.instanceMethod yX2_put, Cond.selects RX2 yX2_put yX2_put, Cond.initialized RX2, Cond.code yX2_put cX2_put 2 none, Cond.fieldLink RX2 19 "SplicedChain$Queue" "size" "I", Cond.fieldLink RX2 9 "SplicedChain$Queue" "numbers" "[I", Cond.fieldLink RX2 15 "SplicedChain$Queue" "first" "I", Cond.methodLink RX3 148 yX0_putUpdate, Cond.instanceMethod yX0_putUpdate, Cond.selects RX0 yX0_putUpdate yX0_putUpdate]
def wsX3_write_r3 : List Cond := [Cond.code yX0_putUpdate cX0_putUpdate 2 none, Cond.fieldLink RX0 10 "SplicedChain$Link" "updates" "LSplicedChain$Queue;"]
def wsX3_write : List Cond := .code yX3_write cX3_write 5 (some .int) :: ((wsX3_write_r1 ++ (wsX3_write_r2 ++ wsX3_write_r3)) ++ wsX10 ++ wsX30 ++ wsX00 ++ wsX20 ++ (vx_atS RX3 41 "java/lang/IllegalArgumentException" ["java/lang/RuntimeException", "java/lang/Exception"]).filter goodWord ++ (vx_atS RX3 59 "java/lang/IllegalStateException" ["java/lang/RuntimeException", "java/lang/Exception"]).filter goodWord)
def wsX3_read : List Cond := .code yX3_read cX3_read 3 (some .int) :: ([.classLink RX3 37 "java/lang/IllegalArgumentException", .initialized "java/lang/IllegalArgumentException", .classLink RX3 55 "java/lang/IllegalStateException", .initialized "java/lang/IllegalStateException", .fieldLink RX3 29 "SplicedChain" "chainLength" "I", .methodLink RX3 33 yX3_isKey, .static yX3_isKey, .initialized RX3, .code yX3_isKey cX3_isKey 1 (some .boolean), .methodLink RX3 44 yX3_nodeAt, .instanceMethod yX3_nodeAt, .selects RX3 yX3_nodeAt yX3_nodeAt, .code yX3_nodeAt cX3_nodeAt 2 (some (.object "SplicedChain$Node")), .fieldLink RX3 22 "SplicedChain" "nodes" "[LSplicedChain$Node;", .fieldLink RX3 26 "SplicedChain" "chain" "[I"] ++ wsX30 ++ wsX10 ++ (vx_atS RX3 41 "java/lang/IllegalArgumentException" ["java/lang/RuntimeException", "java/lang/Exception"]).filter goodWord ++ (vx_atS RX3 59 "java/lang/IllegalStateException" ["java/lang/RuntimeException", "java/lang/Exception"]).filter goodWord)
def wsX3_isNode : List Cond := .code yX3_isNode cX3_isNode 2 (some .boolean) :: ([.fieldLink RX3 22 "SplicedChain" "nodes" "[LSplicedChain$Node;"] ++ wsX30)
def wsX3_positionOf : List Cond := .code yX3_positionOf cX3_positionOf 3 (some .int) :: ([.fieldLink RX3 29 "SplicedChain" "chainLength" "I", .fieldLink RX3 26 "SplicedChain" "chain" "[I"] ++ wsX30)
def wsX3_updatesTowards : List Cond := .code yX3_updatesTowards cX3_updatesTowards 2 (some .int) :: ([.methodLink RX3 44 yX3_nodeAt, .instanceMethod yX3_nodeAt, .selects RX3 yX3_nodeAt yX3_nodeAt, .initialized RX3, .code yX3_nodeAt cX3_nodeAt 2 (some (.object "SplicedChain$Node")), .fieldLink RX3 22 "SplicedChain" "nodes" "[LSplicedChain$Node;", .fieldLink RX3 26 "SplicedChain" "chain" "[I"] ++ wsX10 ++ wsX00 ++ wsX20 ++ wsX30)
def wsX3_deliver_r1 : List Cond := [Cond.classLink RX3 37 "java/lang/IllegalArgumentException", Cond.initialized "java/lang/IllegalArgumentException", Cond.classLink RX3 55 "java/lang/IllegalStateException", Cond.initialized "java/lang/IllegalStateException", Cond.classLink RX3 83 "java/util/NoSuchElementException", Cond.initialized "java/util/NoSuchElementException", Cond.fieldLink RX3 22 "SplicedChain" "nodes" "[LSplicedChain$Node;", Cond.methodLink RX3 69 yX3_isNode, Cond.instanceMethod yX3_isNode, Cond.selects RX3 yX3_isNode yX3_isNode, Cond.initialized RX3, Cond.code yX3_isNode cX3_isNode 2 (some .boolean), Cond.methodLink RX3 76 yX3_positionOf, Cond.instanceMethod yX3_positionOf, Cond.selects RX3 yX3_positionOf yX3_positionOf, Cond.code yX3_positionOf cX3_positionOf 3 (some .int), Cond.fieldLink RX3 29 "SplicedChain" "chainLength" "I", Cond.fieldLink RX3 26 "SplicedChain" "chain" "[I", Cond.methodLink RX3 80 yX3_updatesTowards, Cond.instanceMethod yX3_updatesTowards, Cond.selects RX3 yX3_updatesTowards yX3_updatesTowards, Cond.code yX3_updatesTowards cX3_updatesTowards 2 (some .int), Cond.methodLink RX3 44 yX3_nodeAt, Cond.instanceMethod yX3_nodeAt]
def wsX3_deliver_r2 : List Cond := [Cond.selects RX3 yX3_nodeAt yX3_nodeAt, Cond.code yX3_nodeAt cX3_nodeAt 2 (some (.object "SplicedChain$Node")), Cond.methodLink RX3 98 yX2_take, Cond.instanceMethod yX2_take, Cond.selects RX2 yX2_take yX2_take, Cond.initialized RX2, Cond.code yX2_take cX2_take 2 (some .int), Cond.fieldLink RX2 9 "SplicedChain$Queue" "numbers" "[I", Cond.fieldLink RX2 15 "SplicedChain$Queue" "first" "I", Cond.fieldLink RX2 19 "SplicedChain$Queue" "size" "I", Cond.methodLink RX3 60 yX3_applyAt, Cond.instanceMethod yX3_applyAt, Cond.selects RX3 yX3_applyAt yX3_applyAt, Cond.code yX3_applyAt cX3_applyAt 4 none, Cond.fieldLink RX3 9 "SplicedChain" "keyOfUpdate" "[I", Cond.fieldLink RX3 13 "SplicedChain" "valueOfUpdate" "[I", Cond.methodLink RX3 159 yX3_isTailAt, Cond.instanceMethod yX3_isTailAt, Cond.selects RX3 yX3_isTailAt yX3_isTailAt, Cond.code yX3_isTailAt cX3_isTailAt 2 (some .boolean), Cond.methodLink RX3 112 yX3_acknowledgeAt, Cond.instanceMethod yX3_acknowledgeAt, Cond.selects RX3 yX3_acknowledgeAt yX3_acknowledgeAt, Cond.code yX3_acknowledgeAt cX3_acknowledgeAt 3 none]
def wsX3_deliver_r3 : List Cond := [Cond.fieldLink RX3 16 "SplicedChain" "replies" "I", Cond.methodLink RX3 151 yX0_putAcknowledgement, Cond.instanceMethod yX0_putAcknowledgement, Cond.selects RX0 yX0_putAcknowledgement yX0_putAcknowledgement, Cond.initialized RX0, Cond.code yX0_putAcknowledgement cX0_putAcknowledgement 2 none, Cond.fieldLink RX0 19 "SplicedChain$Link" "open" "Z", Cond.fieldLink RX0 16 "SplicedChain$Link" "acknowledgements" "LSplicedChain$Queue;", Cond.methodLink RX0 23 yX2_put, Cond.instanceMethod yX2_put, Cond.selects RX2 yX2_put yX2_put, Cond.code yX2_put cX2_put 2 none, Cond.methodLink RX3 148 yX0_putUpdate, Cond.instanceMethod yX0_putUpdate, Cond.selects RX0 yX0_putUpdate yX0_putUpdate, Cond.code yX0_putUpdate cX0_putUpdate 2 none, Cond.fieldLink RX0 10 "SplicedChain$Link" "updates" "LSplicedChain$Queue;"]
def wsX3_deliver : List Cond := .code yX3_deliver cX3_deliver 4 (some .int) :: ((wsX3_deliver_r1 ++ (wsX3_deliver_r2 ++ wsX3_deliver_r3)) ++ wsX30 ++ wsX10 ++ wsX00 ++ wsX20 ++ (vx_atS RX3 41 "java/lang/IllegalArgumentException" ["java/lang/RuntimeException", "java/lang/Exception"]).filter goodWord ++ (vx_atS RX3 59 "java/lang/IllegalStateException" ["java/lang/RuntimeException", "java/lang/Exception"]).filter goodWord ++ (nx_atS RX3 87).filter goodWord)
def wsX3_acknowledgementsTowards : List Cond := .code yX3_acknowledgementsTowards cX3_acknowledgementsTowards 3 (some .int) :: ([.methodLink RX3 159 yX3_isTailAt, .instanceMethod yX3_isTailAt, .selects RX3 yX3_isTailAt yX3_isTailAt, .initialized RX3, .code yX3_isTailAt cX3_isTailAt 2 (some .boolean), .fieldLink RX3 29 "SplicedChain" "chainLength" "I", .methodLink RX3 44 yX3_nodeAt, .instanceMethod yX3_nodeAt, .selects RX3 yX3_nodeAt yX3_nodeAt, .code yX3_nodeAt cX3_nodeAt 2 (some (.object "SplicedChain$Node")), .fieldLink RX3 22 "SplicedChain" "nodes" "[LSplicedChain$Node;", .fieldLink RX3 26 "SplicedChain" "chain" "[I"] ++ wsX10 ++ wsX00 ++ wsX20 ++ wsX30)
def wsX3_acknowledge_r1 : List Cond := [Cond.classLink RX3 37 "java/lang/IllegalArgumentException", Cond.initialized "java/lang/IllegalArgumentException", Cond.classLink RX3 55 "java/lang/IllegalStateException", Cond.initialized "java/lang/IllegalStateException", Cond.classLink RX3 83 "java/util/NoSuchElementException", Cond.initialized "java/util/NoSuchElementException", Cond.fieldLink RX3 22 "SplicedChain" "nodes" "[LSplicedChain$Node;", Cond.methodLink RX3 69 yX3_isNode, Cond.instanceMethod yX3_isNode, Cond.selects RX3 yX3_isNode yX3_isNode, Cond.initialized RX3, Cond.code yX3_isNode cX3_isNode 2 (some .boolean), Cond.methodLink RX3 76 yX3_positionOf, Cond.instanceMethod yX3_positionOf, Cond.selects RX3 yX3_positionOf yX3_positionOf, Cond.code yX3_positionOf cX3_positionOf 3 (some .int), Cond.fieldLink RX3 29 "SplicedChain" "chainLength" "I", Cond.fieldLink RX3 26 "SplicedChain" "chain" "[I", Cond.methodLink RX3 104 yX3_acknowledgementsTowards, Cond.instanceMethod yX3_acknowledgementsTowards, Cond.selects RX3 yX3_acknowledgementsTowards yX3_acknowledgementsTowards, Cond.code yX3_acknowledgementsTowards cX3_acknowledgementsTowards 3 (some .int), Cond.methodLink RX3 159 yX3_isTailAt, Cond.instanceMethod yX3_isTailAt]
def wsX3_acknowledge_r2 : List Cond := [Cond.selects RX3 yX3_isTailAt yX3_isTailAt, Cond.code yX3_isTailAt cX3_isTailAt 2 (some .boolean), Cond.methodLink RX3 44 yX3_nodeAt, Cond.instanceMethod yX3_nodeAt, Cond.selects RX3 yX3_nodeAt yX3_nodeAt, Cond.code yX3_nodeAt cX3_nodeAt 2 (some (.object "SplicedChain$Node")), Cond.methodLink RX3 98 yX2_take, Cond.instanceMethod yX2_take, Cond.selects RX2 yX2_take yX2_take, Cond.initialized RX2, Cond.code yX2_take cX2_take 2 (some .int), Cond.fieldLink RX2 9 "SplicedChain$Queue" "numbers" "[I", Cond.fieldLink RX2 15 "SplicedChain$Queue" "first" "I", Cond.fieldLink RX2 19 "SplicedChain$Queue" "size" "I", Cond.methodLink RX3 112 yX3_acknowledgeAt, Cond.instanceMethod yX3_acknowledgeAt, Cond.selects RX3 yX3_acknowledgeAt yX3_acknowledgeAt, Cond.code yX3_acknowledgeAt cX3_acknowledgeAt 3 none, Cond.fieldLink RX3 16 "SplicedChain" "replies" "I", Cond.methodLink RX3 151 yX0_putAcknowledgement, Cond.instanceMethod yX0_putAcknowledgement, Cond.selects RX0 yX0_putAcknowledgement yX0_putAcknowledgement, Cond.initialized RX0, Cond.code yX0_putAcknowledgement cX0_putAcknowledgement 2 none]
def wsX3_acknowledge_r3 : List Cond := [Cond.fieldLink RX0 19 "SplicedChain$Link" "open" "Z", Cond.fieldLink RX0 16 "SplicedChain$Link" "acknowledgements" "LSplicedChain$Queue;", Cond.methodLink RX0 23 yX2_put, Cond.instanceMethod yX2_put, Cond.selects RX2 yX2_put yX2_put, Cond.code yX2_put cX2_put 2 none]
def wsX3_acknowledge : List Cond := .code yX3_acknowledge cX3_acknowledge 4 (some .int) :: ((wsX3_acknowledge_r1 ++ (wsX3_acknowledge_r2 ++ wsX3_acknowledge_r3)) ++ wsX30 ++ wsX10 ++ wsX00 ++ wsX20 ++ (vx_atS RX3 41 "java/lang/IllegalArgumentException" ["java/lang/RuntimeException", "java/lang/Exception"]).filter goodWord ++ (vx_atS RX3 59 "java/lang/IllegalStateException" ["java/lang/RuntimeException", "java/lang/Exception"]).filter goodWord ++ (nx_atS RX3 87).filter goodWord)
def wsX3_countStanding : List Cond := .code yX3_countStanding cX3_countStanding 3 (some .int) :: ([.fieldLink RX3 22 "SplicedChain" "nodes" "[LSplicedChain$Node;"] ++ wsX30 ++ wsX10)
def wsX3_closeLinksAt : List Cond := .code yX3_closeLinksAt cX3_closeLinksAt 2 none :: ([.methodLink RX3 44 yX3_nodeAt, .instanceMethod yX3_nodeAt, .selects RX3 yX3_nodeAt yX3_nodeAt, .initialized RX3, .code yX3_nodeAt cX3_nodeAt 2 (some (.object "SplicedChain$Node")), .fieldLink RX3 22 "SplicedChain" "nodes" "[LSplicedChain$Node;", .fieldLink RX3 26 "SplicedChain" "chain" "[I", .methodLink RX3 162 yX0_close, .instanceMethod yX0_close, .selects RX0 yX0_close yX0_close, .initialized RX0, .code yX0_close cX0_close 1 none, .fieldLink RX0 19 "SplicedChain$Link" "open" "Z", .fieldLink RX0 10 "SplicedChain$Link" "updates" "LSplicedChain$Queue;", .fieldLink RX0 16 "SplicedChain$Link" "acknowledgements" "LSplicedChain$Queue;", .methodLink RX0 27 yX2_clear, .instanceMethod yX2_clear, .selects RX2 yX2_clear yX2_clear, .initialized RX2, .code yX2_clear cX2_clear 1 none, .fieldLink RX2 19 "SplicedChain$Queue" "size" "I"] ++ wsX10 ++ wsX30 ++ wsX00 ++ wsX20)
def wsX3_fail_r1 : List Cond := [Cond.classLink RX3 37 "java/lang/IllegalArgumentException", Cond.initialized "java/lang/IllegalArgumentException", Cond.fieldLink RX3 22 "SplicedChain" "nodes" "[LSplicedChain$Node;", Cond.methodLink RX3 69 yX3_isNode, Cond.instanceMethod yX3_isNode, Cond.selects RX3 yX3_isNode yX3_isNode, Cond.initialized RX3, Cond.code yX3_isNode cX3_isNode 2 (some .boolean), Cond.methodLink RX3 115 yX3_countStanding, Cond.instanceMethod yX3_countStanding, Cond.selects RX3 yX3_countStanding yX3_countStanding, Cond.code yX3_countStanding cX3_countStanding 3 (some .int), Cond.methodLink RX3 76 yX3_positionOf, Cond.instanceMethod yX3_positionOf, Cond.selects RX3 yX3_positionOf yX3_positionOf, Cond.code yX3_positionOf cX3_positionOf 3 (some .int), Cond.fieldLink RX3 29 "SplicedChain" "chainLength" "I", Cond.fieldLink RX3 26 "SplicedChain" "chain" "[I", Cond.methodLink RX3 118 yX3_closeLinksAt, Cond.instanceMethod yX3_closeLinksAt, Cond.selects RX3 yX3_closeLinksAt yX3_closeLinksAt, Cond.code yX3_closeLinksAt cX3_closeLinksAt 2 none, Cond.methodLink RX3 44 yX3_nodeAt, Cond.instanceMethod yX3_nodeAt]
def wsX3_fail_r2 : List Cond := [Cond.selects RX3 yX3_nodeAt yX3_nodeAt, Cond.code yX3_nodeAt cX3_nodeAt 2 (some (.object "SplicedChain$Node")), Cond.methodLink RX3 162 yX0_close, Cond.instanceMethod yX0_close, Cond.selects RX0 yX0_close yX0_close, Cond.initialized RX0, Cond.code yX0_close cX0_close 1 none, Cond.fieldLink RX0 19 "SplicedChain$Link" "open" "Z", Cond.fieldLink RX0 10 "SplicedChain$Link" "updates" "LSplicedChain$Queue;", Cond.fieldLink RX0 16 "SplicedChain$Link" "acknowledgements" "LSplicedChain$Queue;", Cond.methodLink RX0 27 yX2_clear, Cond.instanceMethod yX2_clear, Cond.selects RX2 yX2_clear yX2_clear, Cond.initialized RX2, Cond.code yX2_clear cX2_clear 1 none, Cond.fieldLink RX2 19 "SplicedChain$Queue" "size" "I"]
def wsX3_fail : List Cond := .code yX3_fail cX3_fail 2 (some .boolean) :: ((wsX3_fail_r1 ++ wsX3_fail_r2) ++ wsX30 ++ wsX10 ++ wsX00 ++ wsX20 ++ (vx_atS RX3 41 "java/lang/IllegalArgumentException" ["java/lang/RuntimeException", "java/lang/Exception"]).filter goodWord)
def wsX3_tail : List Cond := .code yX3_tail cX3_tail 1 (some .int) :: ([.fieldLink RX3 26 "SplicedChain" "chain" "[I", .fieldLink RX3 29 "SplicedChain" "chainLength" "I"] ++ wsX30)
def wsX3_takeOutFailed : List Cond := .code yX3_takeOutFailed cX3_takeOutFailed 3 none :: ([.fieldLink RX3 29 "SplicedChain" "chainLength" "I", .fieldLink RX3 26 "SplicedChain" "chain" "[I", .methodLink RX3 44 yX3_nodeAt, .instanceMethod yX3_nodeAt, .selects RX3 yX3_nodeAt yX3_nodeAt, .initialized RX3, .code yX3_nodeAt cX3_nodeAt 2 (some (.object "SplicedChain$Node")), .fieldLink RX3 22 "SplicedChain" "nodes" "[LSplicedChain$Node;"] ++ wsX30 ++ wsX10)
def wsX3_acknowledgeAllSentAtTail_r1 : List Cond := [Cond.fieldLink RX3 29 "SplicedChain" "chainLength" "I", Cond.methodLink RX3 44 yX3_nodeAt, Cond.instanceMethod yX3_nodeAt, Cond.selects RX3 yX3_nodeAt yX3_nodeAt, Cond.initialized RX3, Cond.code yX3_nodeAt cX3_nodeAt 2 (some (.object "SplicedChain$Node")), Cond.fieldLink RX3 22 "SplicedChain" "nodes" "[LSplicedChain$Node;", Cond.fieldLink RX3 26 "SplicedChain" "chain" "[I", Cond.methodLink RX3 112 yX3_acknowledgeAt, Cond.instanceMethod yX3_acknowledgeAt, Cond.selects RX3 yX3_acknowledgeAt yX3_acknowledgeAt, Cond.code yX3_acknowledgeAt cX3_acknowledgeAt 3 none, Cond.fieldLink RX3 16 "SplicedChain" "replies" "I", Cond.methodLink RX3 159 yX3_isTailAt, Cond.instanceMethod yX3_isTailAt, Cond.selects RX3 yX3_isTailAt yX3_isTailAt, Cond.code yX3_isTailAt cX3_isTailAt 2 (some .boolean), Cond.methodLink RX3 151 yX0_putAcknowledgement, Cond.instanceMethod yX0_putAcknowledgement, Cond.selects RX0 yX0_putAcknowledgement yX0_putAcknowledgement, Cond.initialized RX0, Cond.code yX0_putAcknowledgement cX0_putAcknowledgement 2 none, Cond.fieldLink RX0 19 "SplicedChain$Link" "open" "Z", Cond.fieldLink RX0 16 "SplicedChain$Link" "acknowledgements" "LSplicedChain$Queue;"]
def wsX3_acknowledgeAllSentAtTail_r2 : List Cond := [Cond.methodLink RX0 23 yX2_put, Cond.instanceMethod yX2_put, Cond.selects RX2 yX2_put yX2_put, Cond.initialized RX2, Cond.code yX2_put cX2_put 2 none, Cond.fieldLink RX2 19 "SplicedChain$Queue" "size" "I", Cond.fieldLink RX2 9 "SplicedChain$Queue" "numbers" "[I", Cond.fieldLink RX2 15 "SplicedChain$Queue" "first" "I"]
def wsX3_acknowledgeAllSentAtTail : List Cond := .code yX3_acknowledgeAllSentAtTail cX3_acknowledgeAllSentAtTail 4 none :: ((wsX3_acknowledgeAllSentAtTail_r1 ++ wsX3_acknowledgeAllSentAtTail_r2) ++ wsX30 ++ wsX10 ++ wsX00 ++ wsX20)
def wsX3_repair_r1 : List Cond := [Cond.fieldLink RX3 29 "SplicedChain" "chainLength" "I", Cond.methodLink RX3 122 yX3_tail, Cond.instanceMethod yX3_tail, Cond.selects RX3 yX3_tail yX3_tail, Cond.initialized RX3, Cond.code yX3_tail cX3_tail 1 (some .int), Cond.fieldLink RX3 26 "SplicedChain" "chain" "[I", Cond.methodLink RX3 125 yX3_takeOutFailed, Cond.instanceMethod yX3_takeOutFailed, Cond.selects RX3 yX3_takeOutFailed yX3_takeOutFailed, Cond.code yX3_takeOutFailed cX3_takeOutFailed 3 none, Cond.methodLink RX3 44 yX3_nodeAt, Cond.instanceMethod yX3_nodeAt, Cond.selects RX3 yX3_nodeAt yX3_nodeAt, Cond.code yX3_nodeAt cX3_nodeAt 2 (some (.object "SplicedChain$Node")), Cond.fieldLink RX3 22 "SplicedChain" "nodes" "[LSplicedChain$Node;", Cond.methodLink RX3 128 yX3_acknowledgeAllSentAtTail, Cond.instanceMethod yX3_acknowledgeAllSentAtTail, Cond.selects RX3 yX3_acknowledgeAllSentAtTail yX3_acknowledgeAllSentAtTail, Cond.code yX3_acknowledgeAllSentAtTail cX3_acknowledgeAllSentAtTail 4 none, Cond.methodLink RX3 112 yX3_acknowledgeAt, Cond.instanceMethod yX3_acknowledgeAt, Cond.selects RX3 yX3_acknowledgeAt yX3_acknowledgeAt, Cond.code yX3_acknowledgeAt cX3_acknowledgeAt 3 none]
def wsX3_repair_r2 : List Cond := [Cond.fieldLink RX3 16 "SplicedChain" "replies" "I", Cond.methodLink RX3 159 yX3_isTailAt, Cond.instanceMethod yX3_isTailAt, Cond.selects RX3 yX3_isTailAt yX3_isTailAt, Cond.code yX3_isTailAt cX3_isTailAt 2 (some .boolean), Cond.methodLink RX3 151 yX0_putAcknowledgement, Cond.instanceMethod yX0_putAcknowledgement, Cond.selects RX0 yX0_putAcknowledgement yX0_putAcknowledgement, Cond.initialized RX0, Cond.code yX0_putAcknowledgement cX0_putAcknowledgement 2 none, Cond.fieldLink RX0 19 "SplicedChain$Link" "open" "Z", Cond.fieldLink RX0 16 "SplicedChain$Link" "acknowledgements" "LSplicedChain$Queue;", Cond.methodLink RX0 23 yX2_put, Cond.instanceMethod yX2_put, Cond.selects RX2 yX2_put yX2_put, Cond.initialized RX2, Cond.code yX2_put cX2_put 2 none, Cond.fieldLink RX2 19 "SplicedChain$Queue" "size" "I", Cond.fieldLink RX2 9 "SplicedChain$Queue" "numbers" "[I", Cond.fieldLink RX2 15 "SplicedChain$Queue" "first" "I"]
def wsX3_repair : List Cond := .code yX3_repair cX3_repair 3 (some .int) :: ((wsX3_repair_r1 ++ wsX3_repair_r2) ++ wsX30 ++ wsX10 ++ wsX00 ++ wsX20)
def wsX3_canResyncAt : List Cond := .code yX3_canResyncAt cX3_canResyncAt 3 (some .boolean) :: ([.methodLink RX3 159 yX3_isTailAt, .instanceMethod yX3_isTailAt, .selects RX3 yX3_isTailAt yX3_isTailAt, .initialized RX3, .code yX3_isTailAt cX3_isTailAt 2 (some .boolean), .fieldLink RX3 29 "SplicedChain" "chainLength" "I", .methodLink RX3 44 yX3_nodeAt, .instanceMethod yX3_nodeAt, .selects RX3 yX3_nodeAt yX3_nodeAt, .code yX3_nodeAt cX3_nodeAt 2 (some (.object "SplicedChain$Node")), .fieldLink RX3 22 "SplicedChain" "nodes" "[LSplicedChain$Node;", .fieldLink RX3 26 "SplicedChain" "chain" "[I"] ++ wsX10 ++ wsX00 ++ wsX30)
def wsX3_resync_r1 : List Cond := [Cond.classLink RX3 37 "java/lang/IllegalArgumentException", Cond.initialized "java/lang/IllegalArgumentException", Cond.classLink RX3 55 "java/lang/IllegalStateException", Cond.initialized "java/lang/IllegalStateException", Cond.methodLink RX3 142 Lib.Math.max.name, Cond.static Lib.Math.max.name, Cond.initialized "java/lang/Math", Cond.code Lib.Math.max.name Lib.Math.max.code 2 (some .int), Cond.methodLink RX3 69 yX3_isNode, Cond.instanceMethod yX3_isNode, Cond.selects RX3 yX3_isNode yX3_isNode, Cond.initialized RX3, Cond.code yX3_isNode cX3_isNode 2 (some .boolean), Cond.fieldLink RX3 22 "SplicedChain" "nodes" "[LSplicedChain$Node;", Cond.methodLink RX3 76 yX3_positionOf, Cond.instanceMethod yX3_positionOf, Cond.selects RX3 yX3_positionOf yX3_positionOf, Cond.code yX3_positionOf cX3_positionOf 3 (some .int), Cond.fieldLink RX3 29 "SplicedChain" "chainLength" "I", Cond.fieldLink RX3 26 "SplicedChain" "chain" "[I", Cond.methodLink RX3 131 yX3_canResyncAt, Cond.instanceMethod yX3_canResyncAt, Cond.selects RX3 yX3_canResyncAt yX3_canResyncAt, Cond.code yX3_canResyncAt cX3_canResyncAt 3 (some .boolean)]
def wsX3_resync_r2 : List Cond := [Cond.methodLink RX3 159 yX3_isTailAt, Cond.instanceMethod yX3_isTailAt, Cond.selects RX3 yX3_isTailAt yX3_isTailAt, Cond.code yX3_isTailAt cX3_isTailAt 2 (some .boolean), Cond.methodLink RX3 44 yX3_nodeAt, Cond.instanceMethod yX3_nodeAt, Cond.selects RX3 yX3_nodeAt yX3_nodeAt, Cond.code yX3_nodeAt cX3_nodeAt 2 (some (.object "SplicedChain$Node")), Cond.methodLink RX3 148 yX0_putUpdate, Cond.instanceMethod yX0_putUpdate, Cond.selects RX0 yX0_putUpdate yX0_putUpdate, Cond.initialized RX0, Cond.code yX0_putUpdate cX0_putUpdate 2 none, Cond.fieldLink RX0 19 "SplicedChain$Link" "open" "Z", Cond.fieldLink RX0 10 "SplicedChain$Link" "updates" "LSplicedChain$Queue;", Cond.methodLink RX0 23 yX2_put, Cond.instanceMethod yX2_put, Cond.selects RX2 yX2_put yX2_put, Cond.initialized RX2, Cond.code yX2_put cX2_put 2 none, Cond.fieldLink RX2 19 "SplicedChain$Queue" "size" "I", Cond.fieldLink RX2 9 "SplicedChain$Queue" "numbers" "[I", Cond.fieldLink RX2 15 "SplicedChain$Queue" "first" "I", Cond.methodLink RX3 151 yX0_putAcknowledgement]
def wsX3_resync_r3 : List Cond := [Cond.instanceMethod yX0_putAcknowledgement, Cond.selects RX0 yX0_putAcknowledgement yX0_putAcknowledgement, Cond.code yX0_putAcknowledgement cX0_putAcknowledgement 2 none, Cond.fieldLink RX0 16 "SplicedChain$Link" "acknowledgements" "LSplicedChain$Queue;"]
def wsX3_resync : List Cond := .code yX3_resync cX3_resync 7 (some .int) :: ((wsX3_resync_r1 ++ (wsX3_resync_r2 ++ wsX3_resync_r3)) ++ wsX10 ++ wsX00 ++ wsX20 ++ wsX30 ++ (vx_atS RX3 41 "java/lang/IllegalArgumentException" ["java/lang/RuntimeException", "java/lang/Exception"]).filter goodWord ++ (vx_atS RX3 59 "java/lang/IllegalStateException" ["java/lang/RuntimeException", "java/lang/Exception"]).filter goodWord)
def wsX3_replied : List Cond := .code yX3_replied cX3_replied 2 (some .boolean) :: ([.fieldLink RX3 16 "SplicedChain" "replies" "I"] ++ wsX30)
def wsX3_head : List Cond := .code yX3_head cX3_head 1 (some .int) :: ([.fieldLink RX3 26 "SplicedChain" "chain" "[I"] ++ wsX30)
def wsX3_valueAt : List Cond := .code yX3_valueAt cX3_valueAt 3 (some .int) :: ([.classLink RX3 37 "java/lang/IllegalArgumentException", .initialized "java/lang/IllegalArgumentException", .fieldLink RX3 22 "SplicedChain" "nodes" "[LSplicedChain$Node;", .methodLink RX3 69 yX3_isNode, .instanceMethod yX3_isNode, .selects RX3 yX3_isNode yX3_isNode, .initialized RX3, .code yX3_isNode cX3_isNode 2 (some .boolean), .methodLink RX3 33 yX3_isKey, .static yX3_isKey, .code yX3_isKey cX3_isKey 1 (some .boolean)] ++ wsX30 ++ wsX10 ++ (vx_atS RX3 41 "java/lang/IllegalArgumentException" ["java/lang/RuntimeException", "java/lang/Exception"]).filter goodWord)
def wsX3_history : List Cond := .code yX3_history cX3_history 2 (some .int) :: ([.classLink RX3 37 "java/lang/IllegalArgumentException", .initialized "java/lang/IllegalArgumentException", .fieldLink RX3 22 "SplicedChain" "nodes" "[LSplicedChain$Node;", .methodLink RX3 69 yX3_isNode, .instanceMethod yX3_isNode, .selects RX3 yX3_isNode yX3_isNode, .initialized RX3, .code yX3_isNode cX3_isNode 2 (some .boolean)] ++ wsX30 ++ wsX10 ++ (vx_atS RX3 41 "java/lang/IllegalArgumentException" ["java/lang/RuntimeException", "java/lang/Exception"]).filter goodWord)
def wsX3_sent : List Cond := .code yX3_sent cX3_sent 2 (some .int) :: ([.classLink RX3 37 "java/lang/IllegalArgumentException", .initialized "java/lang/IllegalArgumentException", .fieldLink RX3 22 "SplicedChain" "nodes" "[LSplicedChain$Node;", .methodLink RX3 69 yX3_isNode, .instanceMethod yX3_isNode, .selects RX3 yX3_isNode yX3_isNode, .initialized RX3, .code yX3_isNode cX3_isNode 2 (some .boolean)] ++ wsX30 ++ wsX10 ++ (vx_atS RX3 41 "java/lang/IllegalArgumentException" ["java/lang/RuntimeException", "java/lang/Exception"]).filter goodWord)
def wsX3_waiting_r1 : List Cond := [Cond.classLink RX3 37 "java/lang/IllegalArgumentException", Cond.initialized "java/lang/IllegalArgumentException", Cond.methodLink RX3 69 yX3_isNode, Cond.instanceMethod yX3_isNode, Cond.selects RX3 yX3_isNode yX3_isNode, Cond.initialized RX3, Cond.code yX3_isNode cX3_isNode 2 (some .boolean), Cond.fieldLink RX3 22 "SplicedChain" "nodes" "[LSplicedChain$Node;", Cond.methodLink RX3 76 yX3_positionOf, Cond.instanceMethod yX3_positionOf, Cond.selects RX3 yX3_positionOf yX3_positionOf, Cond.code yX3_positionOf cX3_positionOf 3 (some .int), Cond.fieldLink RX3 29 "SplicedChain" "chainLength" "I", Cond.fieldLink RX3 26 "SplicedChain" "chain" "[I", Cond.methodLink RX3 80 yX3_updatesTowards, Cond.instanceMethod yX3_updatesTowards, Cond.selects RX3 yX3_updatesTowards yX3_updatesTowards, Cond.code yX3_updatesTowards cX3_updatesTowards 2 (some .int), Cond.methodLink RX3 44 yX3_nodeAt, Cond.instanceMethod yX3_nodeAt, Cond.selects RX3 yX3_nodeAt yX3_nodeAt, Cond.code yX3_nodeAt cX3_nodeAt 2 (some (.object "SplicedChain$Node")), Cond.methodLink RX3 104 yX3_acknowledgementsTowards, Cond.instanceMethod yX3_acknowledgementsTowards]
def wsX3_waiting_r2 : List Cond := [Cond.selects RX3 yX3_acknowledgementsTowards yX3_acknowledgementsTowards, Cond.code yX3_acknowledgementsTowards cX3_acknowledgementsTowards 3 (some .int), Cond.methodLink RX3 159 yX3_isTailAt, Cond.instanceMethod yX3_isTailAt, Cond.selects RX3 yX3_isTailAt yX3_isTailAt, Cond.code yX3_isTailAt cX3_isTailAt 2 (some .boolean)]
def wsX3_waiting : List Cond := .code yX3_waiting cX3_waiting 3 (some .int) :: ((wsX3_waiting_r1 ++ wsX3_waiting_r2) ++ wsX30 ++ wsX10 ++ wsX00 ++ wsX20 ++ (vx_atS RX3 41 "java/lang/IllegalArgumentException" ["java/lang/RuntimeException", "java/lang/Exception"]).filter goodWord)
def wsX3_lag : List Cond := .code yX3_lag cX3_lag 6 (some .double) :: ([.fieldLink RX3 29 "SplicedChain" "chainLength" "I", .methodLink RX3 44 yX3_nodeAt, .instanceMethod yX3_nodeAt, .selects RX3 yX3_nodeAt yX3_nodeAt, .initialized RX3, .code yX3_nodeAt cX3_nodeAt 2 (some (.object "SplicedChain$Node")), .fieldLink RX3 22 "SplicedChain" "nodes" "[LSplicedChain$Node;", .fieldLink RX3 26 "SplicedChain" "chain" "[I"] ++ wsX30 ++ wsX10)
def wsX4_init : List Cond := .code yX4_init cX4_init 3 none :: ([.methodLink RX4 1 objectInit, .instanceMethod objectInit, .code objectInit ⟨#[0xb1]⟩ 1 none, .arrayClass .int, .fieldLink RX4 7 "SplicedChainModel" "chain" "[I", .arrayClass .boolean, .fieldLink RX4 13 "SplicedChainModel" "failed" "[Z", .fieldLink RX4 17 "SplicedChainModel" "open" "[Z", .fieldLink RX4 20 "SplicedChainModel" "history" "[I", .fieldLink RX4 23 "SplicedChainModel" "acked" "[I", .fieldLink RX4 26 "SplicedChainModel" "keys" "[I", .fieldLink RX4 29 "SplicedChainModel" "values" "[I", .fieldLink RX4 32 "SplicedChainModel" "nodes" "I", .fieldLink RX4 36 "SplicedChainModel" "size" "I"] ++ wsX40)
def wsX4_thrown : List Cond := .code yX4_thrown cX4_thrown 1 (some .int) :: ([.fieldLink RX4 39 "SplicedChainModel" "thrown" "I"] ++ wsX40)
def wsX4_throwsIt : List Cond := .code yX4_throwsIt cX4_throwsIt 2 (some .boolean) :: ([.fieldLink RX4 39 "SplicedChainModel" "thrown" "I"] ++ wsX40)
def wsX4_isNode : List Cond := .code yX4_isNode cX4_isNode 2 (some .boolean) :: ([.fieldLink RX4 32 "SplicedChainModel" "nodes" "I"] ++ wsX40)
def wsX4_placeOf : List Cond := .code yX4_placeOf cX4_placeOf 4 (some .int) :: ([.fieldLink RX4 36 "SplicedChainModel" "size" "I", .fieldLink RX4 7 "SplicedChainModel" "chain" "[I"] ++ wsX40)
def wsX4_first : List Cond := .code yX4_first cX4_first 1 (some .int) :: ([.fieldLink RX4 7 "SplicedChainModel" "chain" "[I"] ++ wsX40)
def wsX4_last : List Cond := .code yX4_last cX4_last 1 (some .int) :: ([.fieldLink RX4 7 "SplicedChainModel" "chain" "[I", .fieldLink RX4 36 "SplicedChainModel" "size" "I"] ++ wsX40)
def wsX4_updatesTo : List Cond := .code yX4_updatesTo cX4_updatesTo 3 (some .int) :: ([.fieldLink RX4 17 "SplicedChainModel" "open" "[Z", .fieldLink RX4 7 "SplicedChainModel" "chain" "[I", .fieldLink RX4 20 "SplicedChainModel" "history" "[I", .methodLink RX4 42 yX4_placeOf, .instanceMethod yX4_placeOf, .selects RX4 yX4_placeOf yX4_placeOf, .initialized RX4, .code yX4_placeOf cX4_placeOf 4 (some .int), .fieldLink RX4 36 "SplicedChainModel" "size" "I"] ++ wsX40)
def wsX4_acksTo : List Cond := .code yX4_acksTo cX4_acksTo 3 (some .int) :: ([.fieldLink RX4 36 "SplicedChainModel" "size" "I", .fieldLink RX4 17 "SplicedChainModel" "open" "[Z", .fieldLink RX4 23 "SplicedChainModel" "acked" "[I", .fieldLink RX4 7 "SplicedChainModel" "chain" "[I", .methodLink RX4 42 yX4_placeOf, .instanceMethod yX4_placeOf, .selects RX4 yX4_placeOf yX4_placeOf, .initialized RX4, .code yX4_placeOf cX4_placeOf 4 (some .int)] ++ wsX40)
def wsX4_apply : List Cond := .code yX4_apply cX4_apply 4 none :: ([.fieldLink RX4 20 "SplicedChainModel" "history" "[I", .fieldLink RX4 26 "SplicedChainModel" "keys" "[I", .fieldLink RX4 29 "SplicedChainModel" "values" "[I", .fieldLink RX4 23 "SplicedChainModel" "acked" "[I", .fieldLink RX4 50 "SplicedChainModel" "replies" "I", .methodLink RX4 46 yX4_last, .instanceMethod yX4_last, .selects RX4 yX4_last yX4_last, .initialized RX4, .code yX4_last cX4_last 1 (some .int), .fieldLink RX4 7 "SplicedChainModel" "chain" "[I", .fieldLink RX4 36 "SplicedChainModel" "size" "I"] ++ wsX40)
def wsX4_valueOf : List Cond := .code yX4_valueOf cX4_valueOf 5 (some .int) :: ([.fieldLink RX4 20 "SplicedChainModel" "history" "[I", .fieldLink RX4 26 "SplicedChainModel" "keys" "[I", .fieldLink RX4 29 "SplicedChainModel" "values" "[I"] ++ wsX40)
def wsX4_write_r1 : List Cond := [Cond.fieldLink RX4 13 "SplicedChainModel" "failed" "[Z", Cond.fieldLink RX4 20 "SplicedChainModel" "history" "[I", Cond.methodLink RX4 53 yX4_first, Cond.instanceMethod yX4_first, Cond.selects RX4 yX4_first yX4_first, Cond.initialized RX4, Cond.code yX4_first cX4_first 1 (some .int), Cond.fieldLink RX4 7 "SplicedChainModel" "chain" "[I", Cond.methodLink RX4 56 yX4_throwsIt, Cond.instanceMethod yX4_throwsIt, Cond.selects RX4 yX4_throwsIt yX4_throwsIt, Cond.code yX4_throwsIt cX4_throwsIt 2 (some .boolean), Cond.fieldLink RX4 39 "SplicedChainModel" "thrown" "I", Cond.methodLink RX4 60 yX4_apply, Cond.instanceMethod yX4_apply, Cond.selects RX4 yX4_apply yX4_apply, Cond.code yX4_apply cX4_apply 4 none, Cond.fieldLink RX4 26 "SplicedChainModel" "keys" "[I", Cond.fieldLink RX4 29 "SplicedChainModel" "values" "[I", Cond.fieldLink RX4 23 "SplicedChainModel" "acked" "[I", Cond.fieldLink RX4 50 "SplicedChainModel" "replies" "I", Cond.methodLink RX4 46 yX4_last, Cond.instanceMethod yX4_last, Cond.selects RX4 yX4_last yX4_last]
def wsX4_write_r2 : List Cond := [Cond.code yX4_last cX4_last 1 (some .int), Cond.fieldLink RX4 36 "SplicedChainModel" "size" "I"]
def wsX4_write : List Cond := .code yX4_write cX4_write 4 (some .int) :: ((wsX4_write_r1 ++ wsX4_write_r2) ++ wsX40)
def wsX4_read : List Cond := .code yX4_read cX4_read 3 (some .int) :: ([.fieldLink RX4 13 "SplicedChainModel" "failed" "[Z", .methodLink RX4 46 yX4_last, .instanceMethod yX4_last, .selects RX4 yX4_last yX4_last, .initialized RX4, .code yX4_last cX4_last 1 (some .int), .fieldLink RX4 7 "SplicedChainModel" "chain" "[I", .fieldLink RX4 36 "SplicedChainModel" "size" "I", .methodLink RX4 56 yX4_throwsIt, .instanceMethod yX4_throwsIt, .selects RX4 yX4_throwsIt yX4_throwsIt, .code yX4_throwsIt cX4_throwsIt 2 (some .boolean), .fieldLink RX4 39 "SplicedChainModel" "thrown" "I", .methodLink RX4 64 yX4_valueOf, .instanceMethod yX4_valueOf, .selects RX4 yX4_valueOf yX4_valueOf, .code yX4_valueOf cX4_valueOf 5 (some .int), .fieldLink RX4 20 "SplicedChainModel" "history" "[I", .fieldLink RX4 26 "SplicedChainModel" "keys" "[I", .fieldLink RX4 29 "SplicedChainModel" "values" "[I"] ++ wsX40)
def wsX4_deliver_r1 : List Cond := [Cond.fieldLink RX4 13 "SplicedChainModel" "failed" "[Z", Cond.fieldLink RX4 7 "SplicedChainModel" "chain" "[I", Cond.fieldLink RX4 20 "SplicedChainModel" "history" "[I", Cond.fieldLink RX4 26 "SplicedChainModel" "keys" "[I", Cond.fieldLink RX4 29 "SplicedChainModel" "values" "[I", Cond.methodLink RX4 68 yX4_isNode, Cond.instanceMethod yX4_isNode, Cond.selects RX4 yX4_isNode yX4_isNode, Cond.initialized RX4, Cond.code yX4_isNode cX4_isNode 2 (some .boolean), Cond.fieldLink RX4 32 "SplicedChainModel" "nodes" "I", Cond.methodLink RX4 71 yX4_updatesTo, Cond.instanceMethod yX4_updatesTo, Cond.selects RX4 yX4_updatesTo yX4_updatesTo, Cond.code yX4_updatesTo cX4_updatesTo 3 (some .int), Cond.fieldLink RX4 17 "SplicedChainModel" "open" "[Z", Cond.methodLink RX4 42 yX4_placeOf, Cond.instanceMethod yX4_placeOf, Cond.selects RX4 yX4_placeOf yX4_placeOf, Cond.code yX4_placeOf cX4_placeOf 4 (some .int), Cond.fieldLink RX4 36 "SplicedChainModel" "size" "I", Cond.methodLink RX4 56 yX4_throwsIt, Cond.instanceMethod yX4_throwsIt, Cond.selects RX4 yX4_throwsIt yX4_throwsIt]
def wsX4_deliver_r2 : List Cond := [Cond.code yX4_throwsIt cX4_throwsIt 2 (some .boolean), Cond.fieldLink RX4 39 "SplicedChainModel" "thrown" "I", Cond.methodLink RX4 60 yX4_apply, Cond.instanceMethod yX4_apply, Cond.selects RX4 yX4_apply yX4_apply, Cond.code yX4_apply cX4_apply 4 none, Cond.fieldLink RX4 23 "SplicedChainModel" "acked" "[I", Cond.fieldLink RX4 50 "SplicedChainModel" "replies" "I", Cond.methodLink RX4 46 yX4_last, Cond.instanceMethod yX4_last, Cond.selects RX4 yX4_last yX4_last, Cond.code yX4_last cX4_last 1 (some .int)]
def wsX4_deliver : List Cond := .code yX4_deliver cX4_deliver 4 (some .int) :: ((wsX4_deliver_r1 ++ wsX4_deliver_r2) ++ wsX40)
def wsX4_acknowledge : List Cond := .code yX4_acknowledge cX4_acknowledge 2 (some .int) :: ([.fieldLink RX4 13 "SplicedChainModel" "failed" "[Z", .fieldLink RX4 23 "SplicedChainModel" "acked" "[I", .methodLink RX4 68 yX4_isNode, .instanceMethod yX4_isNode, .selects RX4 yX4_isNode yX4_isNode, .initialized RX4, .code yX4_isNode cX4_isNode 2 (some .boolean), .fieldLink RX4 32 "SplicedChainModel" "nodes" "I", .methodLink RX4 74 yX4_acksTo, .instanceMethod yX4_acksTo, .selects RX4 yX4_acksTo yX4_acksTo, .code yX4_acksTo cX4_acksTo 3 (some .int), .fieldLink RX4 36 "SplicedChainModel" "size" "I", .fieldLink RX4 17 "SplicedChainModel" "open" "[Z", .fieldLink RX4 7 "SplicedChainModel" "chain" "[I", .methodLink RX4 42 yX4_placeOf, .instanceMethod yX4_placeOf, .selects RX4 yX4_placeOf yX4_placeOf, .code yX4_placeOf cX4_placeOf 4 (some .int), .methodLink RX4 56 yX4_throwsIt, .instanceMethod yX4_throwsIt, .selects RX4 yX4_throwsIt yX4_throwsIt, .code yX4_throwsIt cX4_throwsIt 2 (some .boolean), .fieldLink RX4 39 "SplicedChainModel" "thrown" "I"] ++ wsX40)
def wsX4_fail : List Cond := .code yX4_fail cX4_fail 4 (some .boolean) :: ([.fieldLink RX4 32 "SplicedChainModel" "nodes" "I", .fieldLink RX4 13 "SplicedChainModel" "failed" "[Z", .fieldLink RX4 17 "SplicedChainModel" "open" "[Z", .fieldLink RX4 7 "SplicedChainModel" "chain" "[I", .methodLink RX4 68 yX4_isNode, .instanceMethod yX4_isNode, .selects RX4 yX4_isNode yX4_isNode, .initialized RX4, .code yX4_isNode cX4_isNode 2 (some .boolean), .methodLink RX4 56 yX4_throwsIt, .instanceMethod yX4_throwsIt, .selects RX4 yX4_throwsIt yX4_throwsIt, .code yX4_throwsIt cX4_throwsIt 2 (some .boolean), .fieldLink RX4 39 "SplicedChainModel" "thrown" "I", .methodLink RX4 42 yX4_placeOf, .instanceMethod yX4_placeOf, .selects RX4 yX4_placeOf yX4_placeOf, .code yX4_placeOf cX4_placeOf 4 (some .int), .fieldLink RX4 36 "SplicedChainModel" "size" "I"] ++ wsX40)
def wsX4_repair : List Cond := .code yX4_repair cX4_repair 5 (some .int) :: ([.fieldLink RX4 39 "SplicedChainModel" "thrown" "I", .fieldLink RX4 36 "SplicedChainModel" "size" "I", .fieldLink RX4 13 "SplicedChainModel" "failed" "[Z", .fieldLink RX4 7 "SplicedChainModel" "chain" "[I", .fieldLink RX4 23 "SplicedChainModel" "acked" "[I", .fieldLink RX4 20 "SplicedChainModel" "history" "[I", .fieldLink RX4 50 "SplicedChainModel" "replies" "I", .methodLink RX4 46 yX4_last, .instanceMethod yX4_last, .selects RX4 yX4_last yX4_last, .initialized RX4, .code yX4_last cX4_last 1 (some .int)] ++ wsX40)
def wsX4_resync : List Cond := .code yX4_resync cX4_resync 3 (some .int) :: ([.fieldLink RX4 13 "SplicedChainModel" "failed" "[Z", .fieldLink RX4 36 "SplicedChainModel" "size" "I", .fieldLink RX4 7 "SplicedChainModel" "chain" "[I", .fieldLink RX4 17 "SplicedChainModel" "open" "[Z", .fieldLink RX4 20 "SplicedChainModel" "history" "[I", .methodLink RX4 68 yX4_isNode, .instanceMethod yX4_isNode, .selects RX4 yX4_isNode yX4_isNode, .initialized RX4, .code yX4_isNode cX4_isNode 2 (some .boolean), .fieldLink RX4 32 "SplicedChainModel" "nodes" "I", .methodLink RX4 42 yX4_placeOf, .instanceMethod yX4_placeOf, .selects RX4 yX4_placeOf yX4_placeOf, .code yX4_placeOf cX4_placeOf 4 (some .int), .methodLink RX4 56 yX4_throwsIt, .instanceMethod yX4_throwsIt, .selects RX4 yX4_throwsIt yX4_throwsIt, .code yX4_throwsIt cX4_throwsIt 2 (some .boolean), .fieldLink RX4 39 "SplicedChainModel" "thrown" "I"] ++ wsX40)
def wsX4_replied : List Cond := .code yX4_replied cX4_replied 2 (some .boolean) :: ([.fieldLink RX4 39 "SplicedChainModel" "thrown" "I", .fieldLink RX4 50 "SplicedChainModel" "replies" "I"] ++ wsX40)
def wsX4_head : List Cond := .code yX4_head cX4_head 1 (some .int) :: ([.fieldLink RX4 39 "SplicedChainModel" "thrown" "I", .methodLink RX4 53 yX4_first, .instanceMethod yX4_first, .selects RX4 yX4_first yX4_first, .initialized RX4, .code yX4_first cX4_first 1 (some .int), .fieldLink RX4 7 "SplicedChainModel" "chain" "[I"] ++ wsX40)
def wsX4_tail : List Cond := .code yX4_tail cX4_tail 1 (some .int) :: ([.fieldLink RX4 39 "SplicedChainModel" "thrown" "I", .methodLink RX4 46 yX4_last, .instanceMethod yX4_last, .selects RX4 yX4_last yX4_last, .initialized RX4, .code yX4_last cX4_last 1 (some .int), .fieldLink RX4 7 "SplicedChainModel" "chain" "[I", .fieldLink RX4 36 "SplicedChainModel" "size" "I"] ++ wsX40)
def wsX4_valueAt : List Cond := .code yX4_valueAt cX4_valueAt 3 (some .int) :: ([.methodLink RX4 68 yX4_isNode, .instanceMethod yX4_isNode, .selects RX4 yX4_isNode yX4_isNode, .initialized RX4, .code yX4_isNode cX4_isNode 2 (some .boolean), .fieldLink RX4 32 "SplicedChainModel" "nodes" "I", .methodLink RX4 56 yX4_throwsIt, .instanceMethod yX4_throwsIt, .selects RX4 yX4_throwsIt yX4_throwsIt, .code yX4_throwsIt cX4_throwsIt 2 (some .boolean), .fieldLink RX4 39 "SplicedChainModel" "thrown" "I", .methodLink RX4 64 yX4_valueOf, .instanceMethod yX4_valueOf, .selects RX4 yX4_valueOf yX4_valueOf, .code yX4_valueOf cX4_valueOf 5 (some .int), .fieldLink RX4 20 "SplicedChainModel" "history" "[I", .fieldLink RX4 26 "SplicedChainModel" "keys" "[I", .fieldLink RX4 29 "SplicedChainModel" "values" "[I"] ++ wsX40)
def wsX4_history : List Cond := .code yX4_history cX4_history 2 (some .int) :: ([.fieldLink RX4 20 "SplicedChainModel" "history" "[I", .methodLink RX4 68 yX4_isNode, .instanceMethod yX4_isNode, .selects RX4 yX4_isNode yX4_isNode, .initialized RX4, .code yX4_isNode cX4_isNode 2 (some .boolean), .fieldLink RX4 32 "SplicedChainModel" "nodes" "I", .methodLink RX4 56 yX4_throwsIt, .instanceMethod yX4_throwsIt, .selects RX4 yX4_throwsIt yX4_throwsIt, .code yX4_throwsIt cX4_throwsIt 2 (some .boolean), .fieldLink RX4 39 "SplicedChainModel" "thrown" "I"] ++ wsX40)
def wsX4_sent : List Cond := .code yX4_sent cX4_sent 2 (some .int) :: ([.fieldLink RX4 20 "SplicedChainModel" "history" "[I", .fieldLink RX4 23 "SplicedChainModel" "acked" "[I", .methodLink RX4 68 yX4_isNode, .instanceMethod yX4_isNode, .selects RX4 yX4_isNode yX4_isNode, .initialized RX4, .code yX4_isNode cX4_isNode 2 (some .boolean), .fieldLink RX4 32 "SplicedChainModel" "nodes" "I", .methodLink RX4 56 yX4_throwsIt, .instanceMethod yX4_throwsIt, .selects RX4 yX4_throwsIt yX4_throwsIt, .code yX4_throwsIt cX4_throwsIt 2 (some .boolean), .fieldLink RX4 39 "SplicedChainModel" "thrown" "I"] ++ wsX40)
def wsX4_waiting_r1 : List Cond := [Cond.methodLink RX4 68 yX4_isNode, Cond.instanceMethod yX4_isNode, Cond.selects RX4 yX4_isNode yX4_isNode, Cond.initialized RX4, Cond.code yX4_isNode cX4_isNode 2 (some .boolean), Cond.fieldLink RX4 32 "SplicedChainModel" "nodes" "I", Cond.methodLink RX4 56 yX4_throwsIt, Cond.instanceMethod yX4_throwsIt, Cond.selects RX4 yX4_throwsIt yX4_throwsIt, Cond.code yX4_throwsIt cX4_throwsIt 2 (some .boolean), Cond.fieldLink RX4 39 "SplicedChainModel" "thrown" "I", Cond.methodLink RX4 71 yX4_updatesTo, Cond.instanceMethod yX4_updatesTo, Cond.selects RX4 yX4_updatesTo yX4_updatesTo, Cond.code yX4_updatesTo cX4_updatesTo 3 (some .int), Cond.fieldLink RX4 17 "SplicedChainModel" "open" "[Z", Cond.fieldLink RX4 7 "SplicedChainModel" "chain" "[I", Cond.fieldLink RX4 20 "SplicedChainModel" "history" "[I", Cond.methodLink RX4 42 yX4_placeOf, Cond.instanceMethod yX4_placeOf, Cond.selects RX4 yX4_placeOf yX4_placeOf, Cond.code yX4_placeOf cX4_placeOf 4 (some .int), Cond.fieldLink RX4 36 "SplicedChainModel" "size" "I", Cond.methodLink RX4 74 yX4_acksTo]
def wsX4_waiting_r2 : List Cond := [Cond.instanceMethod yX4_acksTo, Cond.selects RX4 yX4_acksTo yX4_acksTo, Cond.code yX4_acksTo cX4_acksTo 3 (some .int), Cond.fieldLink RX4 23 "SplicedChainModel" "acked" "[I"]
def wsX4_waiting : List Cond := .code yX4_waiting cX4_waiting 2 (some .int) :: ((wsX4_waiting_r1 ++ wsX4_waiting_r2) ++ wsX40)
def wsX4_lag : List Cond := .code yX4_lag cX4_lag 5 (some .double) :: ([.fieldLink RX4 39 "SplicedChainModel" "thrown" "I", .fieldLink RX4 36 "SplicedChainModel" "size" "I", .fieldLink RX4 13 "SplicedChainModel" "failed" "[Z", .fieldLink RX4 7 "SplicedChainModel" "chain" "[I", .fieldLink RX4 20 "SplicedChainModel" "history" "[I"] ++ wsX40)
def wsJ9_max_7cf53 : List Cond := .code yJ9_max_7cf53 cJ9_max_7cf53 2 (some .int) :: ([])
def wsL_cell : List Cond := .code yL_cell cL_cell 2 (some .int) :: ([])
def wsL_write_r1 : List Cond := [Cond.classLink RL 13 "java/lang/IllegalArgumentException", Cond.classLink RL 15 "java/lang/IllegalStateException", Cond.methodLink RL 7 yX3_write, Cond.instanceMethod yX3_write, Cond.selects RX3 yX3_write yX3_write, Cond.initialized RX3, Cond.code yX3_write cX3_write 5 (some .int), Cond.classLink RX3 37 "java/lang/IllegalArgumentException", Cond.initialized "java/lang/IllegalArgumentException", Cond.classLink RX3 55 "java/lang/IllegalStateException", Cond.initialized "java/lang/IllegalStateException", Cond.fieldLink RX3 9 "SplicedChain" "keyOfUpdate" "[I", Cond.fieldLink RX3 13 "SplicedChain" "valueOfUpdate" "[I", Cond.methodLink RX3 33 yX3_isKey, Cond.static yX3_isKey, Cond.code yX3_isKey cX3_isKey 1 (some .boolean), Cond.methodLink RX3 44 yX3_nodeAt, Cond.instanceMethod yX3_nodeAt, Cond.selects RX3 yX3_nodeAt yX3_nodeAt, Cond.code yX3_nodeAt cX3_nodeAt 2 (some (.object "SplicedChain$Node")), Cond.fieldLink RX3 22 "SplicedChain" "nodes" "[LSplicedChain$Node;", Cond.fieldLink RX3 26 "SplicedChain" "chain" "[I", Cond.methodLink RX3 60 yX3_applyAt, Cond.instanceMethod yX3_applyAt]
def wsL_write_r2 : List Cond := [Cond.selects RX3 yX3_applyAt yX3_applyAt, Cond.code yX3_applyAt cX3_applyAt 4 none, Cond.methodLink RX3 159 yX3_isTailAt, Cond.instanceMethod yX3_isTailAt, Cond.selects RX3 yX3_isTailAt yX3_isTailAt, Cond.code yX3_isTailAt cX3_isTailAt 2 (some .boolean), Cond.fieldLink RX3 29 "SplicedChain" "chainLength" "I", Cond.methodLink RX3 112 yX3_acknowledgeAt, Cond.instanceMethod yX3_acknowledgeAt, Cond.selects RX3 yX3_acknowledgeAt yX3_acknowledgeAt, Cond.code yX3_acknowledgeAt cX3_acknowledgeAt 3 none, Cond.fieldLink RX3 16 "SplicedChain" "replies" "I", Cond.methodLink RX3 151 yX0_putAcknowledgement, Cond.instanceMethod yX0_putAcknowledgement, Cond.selects RX0 yX0_putAcknowledgement yX0_putAcknowledgement, Cond.initialized RX0, Cond.code yX0_putAcknowledgement cX0_putAcknowledgement 2 none, Cond.fieldLink RX0 19 "SplicedChain$Link" "open" "Z", Cond.fieldLink RX0 16 "SplicedChain$Link" "acknowledgements" "LSplicedChain$Queue;", Cond.methodLink RX0 23 yX2_put, Cond.instanceMethod yX2_put, Cond.selects RX2 yX2_put yX2_put, Cond.initialized RX2, Cond.code yX2_put cX2_put 2 none]
def wsL_write_r3 : List Cond := [Cond.fieldLink RX2 19 "SplicedChain$Queue" "size" "I", Cond.fieldLink RX2 9 "SplicedChain$Queue" "numbers" "[I", Cond.fieldLink RX2 15 "SplicedChain$Queue" "first" "I", Cond.methodLink RX3 148 yX0_putUpdate, Cond.instanceMethod yX0_putUpdate, Cond.selects RX0 yX0_putUpdate yX0_putUpdate, Cond.code yX0_putUpdate cX0_putUpdate 2 none, Cond.fieldLink RX0 10 "SplicedChain$Link" "updates" "LSplicedChain$Queue;"]
def wsL_write : List Cond := .codeWith yL_write cL_write 5 (some .int) [(0, 10, 13, 13), (0, 10, 17, 15)] :: ((wsL_write_r1 ++ (wsL_write_r2 ++ wsL_write_r3)) ++ wsX10 ++ wsX30 ++ wsX00 ++ wsX20 ++ (vx_atS RX3 41 "java/lang/IllegalArgumentException" ["java/lang/RuntimeException", "java/lang/Exception"]).filter goodWord ++ (vx_atS RX3 59 "java/lang/IllegalStateException" ["java/lang/RuntimeException", "java/lang/Exception"]).filter goodWord)
def wsL_read : List Cond := .codeWith yL_read cL_read 4 (some .int) [(0, 9, 12, 13), (0, 9, 15, 15)] :: ([.classLink RL 13 "java/lang/IllegalArgumentException", .classLink RL 15 "java/lang/IllegalStateException", .methodLink RL 17 yX3_read, .instanceMethod yX3_read, .selects RX3 yX3_read yX3_read, .initialized RX3, .code yX3_read cX3_read 3 (some .int), .classLink RX3 37 "java/lang/IllegalArgumentException", .initialized "java/lang/IllegalArgumentException", .classLink RX3 55 "java/lang/IllegalStateException", .initialized "java/lang/IllegalStateException", .fieldLink RX3 29 "SplicedChain" "chainLength" "I", .methodLink RX3 33 yX3_isKey, .static yX3_isKey, .code yX3_isKey cX3_isKey 1 (some .boolean), .methodLink RX3 44 yX3_nodeAt, .instanceMethod yX3_nodeAt, .selects RX3 yX3_nodeAt yX3_nodeAt, .code yX3_nodeAt cX3_nodeAt 2 (some (.object "SplicedChain$Node")), .fieldLink RX3 22 "SplicedChain" "nodes" "[LSplicedChain$Node;", .fieldLink RX3 26 "SplicedChain" "chain" "[I"] ++ wsX30 ++ wsX10 ++ (vx_atS RX3 41 "java/lang/IllegalArgumentException" ["java/lang/RuntimeException", "java/lang/Exception"]).filter goodWord ++ (vx_atS RX3 59 "java/lang/IllegalStateException" ["java/lang/RuntimeException", "java/lang/Exception"]).filter goodWord)
def wsL_deliver_r1 : List Cond := [Cond.classLink RL 13 "java/lang/IllegalArgumentException", Cond.classLink RL 15 "java/lang/IllegalStateException", Cond.classLink RL 24 "java/util/NoSuchElementException", Cond.methodLink RL 21 yX3_deliver, Cond.instanceMethod yX3_deliver, Cond.selects RX3 yX3_deliver yX3_deliver, Cond.initialized RX3, Cond.code yX3_deliver cX3_deliver 4 (some .int), Cond.classLink RX3 37 "java/lang/IllegalArgumentException", Cond.initialized "java/lang/IllegalArgumentException", Cond.classLink RX3 55 "java/lang/IllegalStateException", Cond.initialized "java/lang/IllegalStateException", Cond.classLink RX3 83 "java/util/NoSuchElementException", Cond.initialized "java/util/NoSuchElementException", Cond.fieldLink RX3 22 "SplicedChain" "nodes" "[LSplicedChain$Node;", Cond.methodLink RX3 69 yX3_isNode, Cond.instanceMethod yX3_isNode, Cond.selects RX3 yX3_isNode yX3_isNode, Cond.code yX3_isNode cX3_isNode 2 (some .boolean), Cond.methodLink RX3 76 yX3_positionOf, Cond.instanceMethod yX3_positionOf, Cond.selects RX3 yX3_positionOf yX3_positionOf, Cond.code yX3_positionOf cX3_positionOf 3 (some .int), Cond.fieldLink RX3 29 "SplicedChain" "chainLength" "I"]
def wsL_deliver_r2 : List Cond := [Cond.fieldLink RX3 26 "SplicedChain" "chain" "[I", Cond.methodLink RX3 80 yX3_updatesTowards, Cond.instanceMethod yX3_updatesTowards, Cond.selects RX3 yX3_updatesTowards yX3_updatesTowards, Cond.code yX3_updatesTowards cX3_updatesTowards 2 (some .int), Cond.methodLink RX3 44 yX3_nodeAt, Cond.instanceMethod yX3_nodeAt, Cond.selects RX3 yX3_nodeAt yX3_nodeAt, Cond.code yX3_nodeAt cX3_nodeAt 2 (some (.object "SplicedChain$Node")), Cond.methodLink RX3 98 yX2_take, Cond.instanceMethod yX2_take, Cond.selects RX2 yX2_take yX2_take, Cond.initialized RX2, Cond.code yX2_take cX2_take 2 (some .int), Cond.fieldLink RX2 9 "SplicedChain$Queue" "numbers" "[I", Cond.fieldLink RX2 15 "SplicedChain$Queue" "first" "I", Cond.fieldLink RX2 19 "SplicedChain$Queue" "size" "I", Cond.methodLink RX3 60 yX3_applyAt, Cond.instanceMethod yX3_applyAt, Cond.selects RX3 yX3_applyAt yX3_applyAt, Cond.code yX3_applyAt cX3_applyAt 4 none, Cond.fieldLink RX3 9 "SplicedChain" "keyOfUpdate" "[I", Cond.fieldLink RX3 13 "SplicedChain" "valueOfUpdate" "[I", Cond.methodLink RX3 159 yX3_isTailAt]
def wsL_deliver_r3 : List Cond := [Cond.instanceMethod yX3_isTailAt, Cond.selects RX3 yX3_isTailAt yX3_isTailAt, Cond.code yX3_isTailAt cX3_isTailAt 2 (some .boolean), Cond.methodLink RX3 112 yX3_acknowledgeAt, Cond.instanceMethod yX3_acknowledgeAt, Cond.selects RX3 yX3_acknowledgeAt yX3_acknowledgeAt, Cond.code yX3_acknowledgeAt cX3_acknowledgeAt 3 none, Cond.fieldLink RX3 16 "SplicedChain" "replies" "I", Cond.methodLink RX3 151 yX0_putAcknowledgement, Cond.instanceMethod yX0_putAcknowledgement, Cond.selects RX0 yX0_putAcknowledgement yX0_putAcknowledgement, Cond.initialized RX0, Cond.code yX0_putAcknowledgement cX0_putAcknowledgement 2 none, Cond.fieldLink RX0 19 "SplicedChain$Link" "open" "Z", Cond.fieldLink RX0 16 "SplicedChain$Link" "acknowledgements" "LSplicedChain$Queue;", Cond.methodLink RX0 23 yX2_put, Cond.instanceMethod yX2_put, Cond.selects RX2 yX2_put yX2_put, Cond.code yX2_put cX2_put 2 none, Cond.methodLink RX3 148 yX0_putUpdate, Cond.instanceMethod yX0_putUpdate, Cond.selects RX0 yX0_putUpdate yX0_putUpdate, Cond.code yX0_putUpdate cX0_putUpdate 2 none, Cond.fieldLink RX0 10 "SplicedChain$Link" "updates" "LSplicedChain$Queue;"]
def wsL_deliver : List Cond := .codeWith yL_deliver cL_deliver 4 (some .int) [(0, 9, 12, 13), (0, 9, 15, 15), (0, 9, 18, 24)] :: ((wsL_deliver_r1 ++ (wsL_deliver_r2 ++ wsL_deliver_r3)) ++ wsX30 ++ wsX10 ++ wsX00 ++ wsX20 ++ (vx_atS RX3 41 "java/lang/IllegalArgumentException" ["java/lang/RuntimeException", "java/lang/Exception"]).filter goodWord ++ (vx_atS RX3 59 "java/lang/IllegalStateException" ["java/lang/RuntimeException", "java/lang/Exception"]).filter goodWord ++ (nx_atS RX3 87).filter goodWord)
def wsL_acknowledge_r1 : List Cond := [Cond.classLink RL 13 "java/lang/IllegalArgumentException", Cond.classLink RL 15 "java/lang/IllegalStateException", Cond.classLink RL 24 "java/util/NoSuchElementException", Cond.methodLink RL 26 yX3_acknowledge, Cond.instanceMethod yX3_acknowledge, Cond.selects RX3 yX3_acknowledge yX3_acknowledge, Cond.initialized RX3, Cond.code yX3_acknowledge cX3_acknowledge 4 (some .int), Cond.classLink RX3 37 "java/lang/IllegalArgumentException", Cond.initialized "java/lang/IllegalArgumentException", Cond.classLink RX3 55 "java/lang/IllegalStateException", Cond.initialized "java/lang/IllegalStateException", Cond.classLink RX3 83 "java/util/NoSuchElementException", Cond.initialized "java/util/NoSuchElementException", Cond.fieldLink RX3 22 "SplicedChain" "nodes" "[LSplicedChain$Node;", Cond.methodLink RX3 69 yX3_isNode, Cond.instanceMethod yX3_isNode, Cond.selects RX3 yX3_isNode yX3_isNode, Cond.code yX3_isNode cX3_isNode 2 (some .boolean), Cond.methodLink RX3 76 yX3_positionOf, Cond.instanceMethod yX3_positionOf, Cond.selects RX3 yX3_positionOf yX3_positionOf, Cond.code yX3_positionOf cX3_positionOf 3 (some .int), Cond.fieldLink RX3 29 "SplicedChain" "chainLength" "I"]
def wsL_acknowledge_r2 : List Cond := [Cond.fieldLink RX3 26 "SplicedChain" "chain" "[I", Cond.methodLink RX3 104 yX3_acknowledgementsTowards, Cond.instanceMethod yX3_acknowledgementsTowards, Cond.selects RX3 yX3_acknowledgementsTowards yX3_acknowledgementsTowards, Cond.code yX3_acknowledgementsTowards cX3_acknowledgementsTowards 3 (some .int), Cond.methodLink RX3 159 yX3_isTailAt, Cond.instanceMethod yX3_isTailAt, Cond.selects RX3 yX3_isTailAt yX3_isTailAt, Cond.code yX3_isTailAt cX3_isTailAt 2 (some .boolean), Cond.methodLink RX3 44 yX3_nodeAt, Cond.instanceMethod yX3_nodeAt, Cond.selects RX3 yX3_nodeAt yX3_nodeAt, Cond.code yX3_nodeAt cX3_nodeAt 2 (some (.object "SplicedChain$Node")), Cond.methodLink RX3 98 yX2_take, Cond.instanceMethod yX2_take, Cond.selects RX2 yX2_take yX2_take, Cond.initialized RX2, Cond.code yX2_take cX2_take 2 (some .int), Cond.fieldLink RX2 9 "SplicedChain$Queue" "numbers" "[I", Cond.fieldLink RX2 15 "SplicedChain$Queue" "first" "I", Cond.fieldLink RX2 19 "SplicedChain$Queue" "size" "I", Cond.methodLink RX3 112 yX3_acknowledgeAt, Cond.instanceMethod yX3_acknowledgeAt, Cond.selects RX3 yX3_acknowledgeAt yX3_acknowledgeAt]
def wsL_acknowledge_r3 : List Cond := [Cond.code yX3_acknowledgeAt cX3_acknowledgeAt 3 none, Cond.fieldLink RX3 16 "SplicedChain" "replies" "I", Cond.methodLink RX3 151 yX0_putAcknowledgement, Cond.instanceMethod yX0_putAcknowledgement, Cond.selects RX0 yX0_putAcknowledgement yX0_putAcknowledgement, Cond.initialized RX0, Cond.code yX0_putAcknowledgement cX0_putAcknowledgement 2 none, Cond.fieldLink RX0 19 "SplicedChain$Link" "open" "Z", Cond.fieldLink RX0 16 "SplicedChain$Link" "acknowledgements" "LSplicedChain$Queue;", Cond.methodLink RX0 23 yX2_put, Cond.instanceMethod yX2_put, Cond.selects RX2 yX2_put yX2_put, Cond.code yX2_put cX2_put 2 none]
def wsL_acknowledge : List Cond := .codeWith yL_acknowledge cL_acknowledge 4 (some .int) [(0, 9, 12, 13), (0, 9, 15, 15), (0, 9, 18, 24)] :: ((wsL_acknowledge_r1 ++ (wsL_acknowledge_r2 ++ wsL_acknowledge_r3)) ++ wsX30 ++ wsX10 ++ wsX00 ++ wsX20 ++ (vx_atS RX3 41 "java/lang/IllegalArgumentException" ["java/lang/RuntimeException", "java/lang/Exception"]).filter goodWord ++ (vx_atS RX3 59 "java/lang/IllegalStateException" ["java/lang/RuntimeException", "java/lang/Exception"]).filter goodWord ++ (nx_atS RX3 87).filter goodWord)
def wsL_fail_r1 : List Cond := [Cond.classLink RL 13 "java/lang/IllegalArgumentException", Cond.methodLink RL 29 yX3_fail, Cond.instanceMethod yX3_fail, Cond.selects RX3 yX3_fail yX3_fail, Cond.initialized RX3, Cond.code yX3_fail cX3_fail 2 (some .boolean), Cond.classLink RX3 37 "java/lang/IllegalArgumentException", Cond.initialized "java/lang/IllegalArgumentException", Cond.fieldLink RX3 22 "SplicedChain" "nodes" "[LSplicedChain$Node;", Cond.methodLink RX3 69 yX3_isNode, Cond.instanceMethod yX3_isNode, Cond.selects RX3 yX3_isNode yX3_isNode, Cond.code yX3_isNode cX3_isNode 2 (some .boolean), Cond.methodLink RX3 115 yX3_countStanding, Cond.instanceMethod yX3_countStanding, Cond.selects RX3 yX3_countStanding yX3_countStanding, Cond.code yX3_countStanding cX3_countStanding 3 (some .int), Cond.methodLink RX3 76 yX3_positionOf, Cond.instanceMethod yX3_positionOf, Cond.selects RX3 yX3_positionOf yX3_positionOf, Cond.code yX3_positionOf cX3_positionOf 3 (some .int), Cond.fieldLink RX3 29 "SplicedChain" "chainLength" "I", Cond.fieldLink RX3 26 "SplicedChain" "chain" "[I", Cond.methodLink RX3 118 yX3_closeLinksAt]
def wsL_fail_r2 : List Cond := [Cond.instanceMethod yX3_closeLinksAt, Cond.selects RX3 yX3_closeLinksAt yX3_closeLinksAt, Cond.code yX3_closeLinksAt cX3_closeLinksAt 2 none, Cond.methodLink RX3 44 yX3_nodeAt, Cond.instanceMethod yX3_nodeAt, Cond.selects RX3 yX3_nodeAt yX3_nodeAt, Cond.code yX3_nodeAt cX3_nodeAt 2 (some (.object "SplicedChain$Node")), Cond.methodLink RX3 162 yX0_close, Cond.instanceMethod yX0_close, Cond.selects RX0 yX0_close yX0_close, Cond.initialized RX0, Cond.code yX0_close cX0_close 1 none, Cond.fieldLink RX0 19 "SplicedChain$Link" "open" "Z", Cond.fieldLink RX0 10 "SplicedChain$Link" "updates" "LSplicedChain$Queue;", Cond.fieldLink RX0 16 "SplicedChain$Link" "acknowledgements" "LSplicedChain$Queue;", Cond.methodLink RX0 27 yX2_clear, Cond.instanceMethod yX2_clear, Cond.selects RX2 yX2_clear yX2_clear, Cond.initialized RX2, Cond.code yX2_clear cX2_clear 1 none, Cond.fieldLink RX2 19 "SplicedChain$Queue" "size" "I"]
def wsL_fail : List Cond := .codeWith yL_fail cL_fail 4 (some .int) [(0, 16, 19, 13)] :: ((wsL_fail_r1 ++ wsL_fail_r2) ++ wsX30 ++ wsX10 ++ wsX00 ++ wsX20 ++ (vx_atS RX3 41 "java/lang/IllegalArgumentException" ["java/lang/RuntimeException", "java/lang/Exception"]).filter goodWord)
def wsL_resync_r1 : List Cond := [Cond.classLink RL 13 "java/lang/IllegalArgumentException", Cond.classLink RL 15 "java/lang/IllegalStateException", Cond.methodLink RL 33 yX3_resync, Cond.instanceMethod yX3_resync, Cond.selects RX3 yX3_resync yX3_resync, Cond.initialized RX3, Cond.code yX3_resync cX3_resync 7 (some .int), Cond.classLink RX3 37 "java/lang/IllegalArgumentException", Cond.initialized "java/lang/IllegalArgumentException", Cond.classLink RX3 55 "java/lang/IllegalStateException", Cond.initialized "java/lang/IllegalStateException", Cond.methodLink RX3 142 Lib.Math.max.name, Cond.static Lib.Math.max.name, Cond.initialized "java/lang/Math", Cond.code Lib.Math.max.name Lib.Math.max.code 2 (some .int), Cond.methodLink RX3 69 yX3_isNode, Cond.instanceMethod yX3_isNode, Cond.selects RX3 yX3_isNode yX3_isNode, Cond.code yX3_isNode cX3_isNode 2 (some .boolean), Cond.fieldLink RX3 22 "SplicedChain" "nodes" "[LSplicedChain$Node;", Cond.methodLink RX3 76 yX3_positionOf, Cond.instanceMethod yX3_positionOf, Cond.selects RX3 yX3_positionOf yX3_positionOf, Cond.code yX3_positionOf cX3_positionOf 3 (some .int)]
def wsL_resync_r2 : List Cond := [Cond.fieldLink RX3 29 "SplicedChain" "chainLength" "I", Cond.fieldLink RX3 26 "SplicedChain" "chain" "[I", Cond.methodLink RX3 131 yX3_canResyncAt, Cond.instanceMethod yX3_canResyncAt, Cond.selects RX3 yX3_canResyncAt yX3_canResyncAt, Cond.code yX3_canResyncAt cX3_canResyncAt 3 (some .boolean), Cond.methodLink RX3 159 yX3_isTailAt, Cond.instanceMethod yX3_isTailAt, Cond.selects RX3 yX3_isTailAt yX3_isTailAt, Cond.code yX3_isTailAt cX3_isTailAt 2 (some .boolean), Cond.methodLink RX3 44 yX3_nodeAt, Cond.instanceMethod yX3_nodeAt, Cond.selects RX3 yX3_nodeAt yX3_nodeAt, Cond.code yX3_nodeAt cX3_nodeAt 2 (some (.object "SplicedChain$Node")), Cond.methodLink RX3 148 yX0_putUpdate, Cond.instanceMethod yX0_putUpdate, Cond.selects RX0 yX0_putUpdate yX0_putUpdate, Cond.initialized RX0, Cond.code yX0_putUpdate cX0_putUpdate 2 none, Cond.fieldLink RX0 19 "SplicedChain$Link" "open" "Z", Cond.fieldLink RX0 10 "SplicedChain$Link" "updates" "LSplicedChain$Queue;", Cond.methodLink RX0 23 yX2_put, Cond.instanceMethod yX2_put, Cond.selects RX2 yX2_put yX2_put]
def wsL_resync_r3 : List Cond := [Cond.initialized RX2, Cond.code yX2_put cX2_put 2 none, Cond.fieldLink RX2 19 "SplicedChain$Queue" "size" "I", Cond.fieldLink RX2 9 "SplicedChain$Queue" "numbers" "[I", Cond.fieldLink RX2 15 "SplicedChain$Queue" "first" "I", Cond.methodLink RX3 151 yX0_putAcknowledgement, Cond.instanceMethod yX0_putAcknowledgement, Cond.selects RX0 yX0_putAcknowledgement yX0_putAcknowledgement, Cond.code yX0_putAcknowledgement cX0_putAcknowledgement 2 none, Cond.fieldLink RX0 16 "SplicedChain$Link" "acknowledgements" "LSplicedChain$Queue;"]
def wsL_resync : List Cond := .codeWith yL_resync cL_resync 4 (some .int) [(0, 9, 12, 13), (0, 9, 15, 15)] :: ((wsL_resync_r1 ++ (wsL_resync_r2 ++ wsL_resync_r3)) ++ wsX10 ++ wsX00 ++ wsX20 ++ wsX30 ++ (vx_atS RX3 41 "java/lang/IllegalArgumentException" ["java/lang/RuntimeException", "java/lang/Exception"]).filter goodWord ++ (vx_atS RX3 59 "java/lang/IllegalStateException" ["java/lang/RuntimeException", "java/lang/Exception"]).filter goodWord)
def wsL_valueAt : List Cond := .codeWith yL_valueAt cL_valueAt 5 (some .int) [(0, 10, 13, 13)] :: ([.classLink RL 13 "java/lang/IllegalArgumentException", .methodLink RL 36 yX3_valueAt, .instanceMethod yX3_valueAt, .selects RX3 yX3_valueAt yX3_valueAt, .initialized RX3, .code yX3_valueAt cX3_valueAt 3 (some .int), .classLink RX3 37 "java/lang/IllegalArgumentException", .initialized "java/lang/IllegalArgumentException", .fieldLink RX3 22 "SplicedChain" "nodes" "[LSplicedChain$Node;", .methodLink RX3 69 yX3_isNode, .instanceMethod yX3_isNode, .selects RX3 yX3_isNode yX3_isNode, .code yX3_isNode cX3_isNode 2 (some .boolean), .methodLink RX3 33 yX3_isKey, .static yX3_isKey, .code yX3_isKey cX3_isKey 1 (some .boolean)] ++ wsX30 ++ wsX10 ++ (vx_atS RX3 41 "java/lang/IllegalArgumentException" ["java/lang/RuntimeException", "java/lang/Exception"]).filter goodWord)
def wsL_history : List Cond := .codeWith yL_history cL_history 4 (some .int) [(0, 9, 12, 13)] :: ([.classLink RL 13 "java/lang/IllegalArgumentException", .methodLink RL 39 yX3_history, .instanceMethod yX3_history, .selects RX3 yX3_history yX3_history, .initialized RX3, .code yX3_history cX3_history 2 (some .int), .classLink RX3 37 "java/lang/IllegalArgumentException", .initialized "java/lang/IllegalArgumentException", .fieldLink RX3 22 "SplicedChain" "nodes" "[LSplicedChain$Node;", .methodLink RX3 69 yX3_isNode, .instanceMethod yX3_isNode, .selects RX3 yX3_isNode yX3_isNode, .code yX3_isNode cX3_isNode 2 (some .boolean)] ++ wsX30 ++ wsX10 ++ (vx_atS RX3 41 "java/lang/IllegalArgumentException" ["java/lang/RuntimeException", "java/lang/Exception"]).filter goodWord)
def wsL_sent : List Cond := .codeWith yL_sent cL_sent 4 (some .int) [(0, 9, 12, 13)] :: ([.classLink RL 13 "java/lang/IllegalArgumentException", .methodLink RL 42 yX3_sent, .instanceMethod yX3_sent, .selects RX3 yX3_sent yX3_sent, .initialized RX3, .code yX3_sent cX3_sent 2 (some .int), .classLink RX3 37 "java/lang/IllegalArgumentException", .initialized "java/lang/IllegalArgumentException", .fieldLink RX3 22 "SplicedChain" "nodes" "[LSplicedChain$Node;", .methodLink RX3 69 yX3_isNode, .instanceMethod yX3_isNode, .selects RX3 yX3_isNode yX3_isNode, .code yX3_isNode cX3_isNode 2 (some .boolean)] ++ wsX30 ++ wsX10 ++ (vx_atS RX3 41 "java/lang/IllegalArgumentException" ["java/lang/RuntimeException", "java/lang/Exception"]).filter goodWord)
def wsL_waiting_r1 : List Cond := [Cond.classLink RL 13 "java/lang/IllegalArgumentException", Cond.methodLink RL 45 yX3_waiting, Cond.instanceMethod yX3_waiting, Cond.selects RX3 yX3_waiting yX3_waiting, Cond.initialized RX3, Cond.code yX3_waiting cX3_waiting 3 (some .int), Cond.classLink RX3 37 "java/lang/IllegalArgumentException", Cond.initialized "java/lang/IllegalArgumentException", Cond.methodLink RX3 69 yX3_isNode, Cond.instanceMethod yX3_isNode, Cond.selects RX3 yX3_isNode yX3_isNode, Cond.code yX3_isNode cX3_isNode 2 (some .boolean), Cond.fieldLink RX3 22 "SplicedChain" "nodes" "[LSplicedChain$Node;", Cond.methodLink RX3 76 yX3_positionOf, Cond.instanceMethod yX3_positionOf, Cond.selects RX3 yX3_positionOf yX3_positionOf, Cond.code yX3_positionOf cX3_positionOf 3 (some .int), Cond.fieldLink RX3 29 "SplicedChain" "chainLength" "I", Cond.fieldLink RX3 26 "SplicedChain" "chain" "[I", Cond.methodLink RX3 80 yX3_updatesTowards, Cond.instanceMethod yX3_updatesTowards, Cond.selects RX3 yX3_updatesTowards yX3_updatesTowards, Cond.code yX3_updatesTowards cX3_updatesTowards 2 (some .int), Cond.methodLink RX3 44 yX3_nodeAt]
def wsL_waiting_r2 : List Cond := [Cond.instanceMethod yX3_nodeAt, Cond.selects RX3 yX3_nodeAt yX3_nodeAt, Cond.code yX3_nodeAt cX3_nodeAt 2 (some (.object "SplicedChain$Node")), Cond.methodLink RX3 104 yX3_acknowledgementsTowards, Cond.instanceMethod yX3_acknowledgementsTowards, Cond.selects RX3 yX3_acknowledgementsTowards yX3_acknowledgementsTowards, Cond.code yX3_acknowledgementsTowards cX3_acknowledgementsTowards 3 (some .int), Cond.methodLink RX3 159 yX3_isTailAt, Cond.instanceMethod yX3_isTailAt, Cond.selects RX3 yX3_isTailAt yX3_isTailAt, Cond.code yX3_isTailAt cX3_isTailAt 2 (some .boolean)]
def wsL_waiting : List Cond := .codeWith yL_waiting cL_waiting 4 (some .int) [(0, 9, 12, 13)] :: ((wsL_waiting_r1 ++ wsL_waiting_r2) ++ wsX30 ++ wsX10 ++ wsX00 ++ wsX20 ++ (vx_atS RX3 41 "java/lang/IllegalArgumentException" ["java/lang/RuntimeException", "java/lang/Exception"]).filter goodWord)
def wsL_law0_r1 : List Cond := [Cond.classLink RL 8 RX3, Cond.instantiable RX3 6, Cond.initialized RX3, Cond.classLink RL 57 RX4, Cond.instantiable RX4 11, Cond.initialized RX4, Cond.arrayClass .long, Cond.methodLink RL 48 yL_cell, Cond.static yL_cell, Cond.initialized RL, Cond.code yL_cell cL_cell 2 (some .int), Cond.methodLink RL 54 yX3_init, Cond.instanceMethod yX3_init, Cond.code yX3_init cX3_init 4 none, Cond.methodLink RX3 1 objectInit, Cond.instanceMethod objectInit, Cond.code objectInit ⟨#[0xb1]⟩ 1 none, Cond.arrayClass .int, Cond.fieldLink RX3 9 "SplicedChain" "keyOfUpdate" "[I", Cond.fieldLink RX3 13 "SplicedChain" "valueOfUpdate" "[I", Cond.fieldLink RX3 16 "SplicedChain" "replies" "I", Cond.classLink RX3 20 RX1, Cond.fieldLink RX3 22 "SplicedChain" "nodes" "[LSplicedChain$Node;", Cond.fieldLink RX3 26 "SplicedChain" "chain" "[I"]
def wsL_law0_r2 : List Cond := [Cond.fieldLink RX3 29 "SplicedChain" "chainLength" "I", Cond.instantiable RX1 5, Cond.initialized RX1, Cond.instanceMethod yX1_init, Cond.code yX1_init cX1_init 1 none, Cond.methodLink RX1 3 objectInit, Cond.fieldLink RX1 9 "SplicedChain$Node" "values" "[I", Cond.classLink RX1 15 RX0, Cond.instantiable RX0 3, Cond.initialized RX0, Cond.fieldLink RX1 18 "SplicedChain$Node" "link" "LSplicedChain$Link;", Cond.fieldLink RX1 22 "SplicedChain$Node" "history" "I", Cond.fieldLink RX1 26 "SplicedChain$Node" "acknowledged" "I", Cond.fieldLink RX1 29 "SplicedChain$Node" "failed" "Z", Cond.instanceMethod yX0_init, Cond.code yX0_init cX0_init 1 none, Cond.methodLink RX0 1 objectInit, Cond.classLink RX0 7 RX2, Cond.instantiable RX2 3, Cond.initialized RX2, Cond.fieldLink RX0 10 "SplicedChain$Link" "updates" "LSplicedChain$Queue;", Cond.fieldLink RX0 16 "SplicedChain$Link" "acknowledgements" "LSplicedChain$Queue;", Cond.fieldLink RX0 19 "SplicedChain$Link" "open" "Z", Cond.instanceMethod yX2_init]
def wsL_law0_r3 : List Cond := [Cond.code yX2_init cX2_init 1 none, Cond.methodLink RX2 3 objectInit, Cond.fieldLink RX2 9 "SplicedChain$Queue" "numbers" "[I", Cond.fieldLink RX2 15 "SplicedChain$Queue" "first" "I", Cond.fieldLink RX2 19 "SplicedChain$Queue" "size" "I", Cond.methodLink RL 59 yX4_init, Cond.instanceMethod yX4_init, Cond.code yX4_init cX4_init 3 none, Cond.methodLink RX4 1 objectInit, Cond.fieldLink RX4 7 "SplicedChainModel" "chain" "[I", Cond.arrayClass .boolean, Cond.fieldLink RX4 13 "SplicedChainModel" "failed" "[Z", Cond.fieldLink RX4 17 "SplicedChainModel" "open" "[Z", Cond.fieldLink RX4 20 "SplicedChainModel" "history" "[I", Cond.fieldLink RX4 23 "SplicedChainModel" "acked" "[I", Cond.fieldLink RX4 26 "SplicedChainModel" "keys" "[I", Cond.fieldLink RX4 29 "SplicedChainModel" "values" "[I", Cond.fieldLink RX4 32 "SplicedChainModel" "nodes" "I", Cond.fieldLink RX4 36 "SplicedChainModel" "size" "I", Cond.methodLink RL 60 yL_write, Cond.static yL_write, Cond.codeWith yL_write cL_write 5 (some .int) [(0, 10, 13, 13), (0, 10, 17, 15)], Cond.classLink RL 13 "java/lang/IllegalArgumentException", Cond.classLink RL 15 "java/lang/IllegalStateException"]
def wsL_law0_r4 : List Cond := [Cond.methodLink RL 7 yX3_write, Cond.instanceMethod yX3_write, Cond.selects RX3 yX3_write yX3_write, Cond.code yX3_write cX3_write 5 (some .int), Cond.classLink RX3 37 "java/lang/IllegalArgumentException", Cond.initialized "java/lang/IllegalArgumentException", Cond.classLink RX3 55 "java/lang/IllegalStateException", Cond.initialized "java/lang/IllegalStateException", Cond.methodLink RX3 33 yX3_isKey, Cond.static yX3_isKey, Cond.code yX3_isKey cX3_isKey 1 (some .boolean), Cond.methodLink RX3 44 yX3_nodeAt, Cond.instanceMethod yX3_nodeAt, Cond.selects RX3 yX3_nodeAt yX3_nodeAt, Cond.code yX3_nodeAt cX3_nodeAt 2 (some (.object "SplicedChain$Node")), Cond.methodLink RX3 60 yX3_applyAt, Cond.instanceMethod yX3_applyAt, Cond.selects RX3 yX3_applyAt yX3_applyAt, Cond.code yX3_applyAt cX3_applyAt 4 none, Cond.methodLink RX3 159 yX3_isTailAt, Cond.instanceMethod yX3_isTailAt, Cond.selects RX3 yX3_isTailAt yX3_isTailAt, Cond.code yX3_isTailAt cX3_isTailAt 2 (some .boolean), Cond.methodLink RX3 112 yX3_acknowledgeAt]
def wsL_law0_r5 : List Cond := [Cond.instanceMethod yX3_acknowledgeAt, Cond.selects RX3 yX3_acknowledgeAt yX3_acknowledgeAt, Cond.code yX3_acknowledgeAt cX3_acknowledgeAt 3 none, Cond.methodLink RX3 151 yX0_putAcknowledgement, Cond.instanceMethod yX0_putAcknowledgement, Cond.selects RX0 yX0_putAcknowledgement yX0_putAcknowledgement, Cond.code yX0_putAcknowledgement cX0_putAcknowledgement 2 none, Cond.methodLink RX0 23 yX2_put, Cond.instanceMethod yX2_put, Cond.selects RX2 yX2_put yX2_put, Cond.code yX2_put cX2_put 2 none, Cond.methodLink RX3 148 yX0_putUpdate, Cond.instanceMethod yX0_putUpdate, Cond.selects RX0 yX0_putUpdate yX0_putUpdate, Cond.code yX0_putUpdate cX0_putUpdate 2 none, Cond.methodLink RL 63 yX4_write, Cond.instanceMethod yX4_write, Cond.selects RX4 yX4_write yX4_write, Cond.code yX4_write cX4_write 4 (some .int), Cond.methodLink RX4 53 yX4_first, Cond.instanceMethod yX4_first, Cond.selects RX4 yX4_first yX4_first, Cond.code yX4_first cX4_first 1 (some .int), Cond.methodLink RX4 56 yX4_throwsIt]
def wsL_law0_r6 : List Cond := [Cond.instanceMethod yX4_throwsIt, Cond.selects RX4 yX4_throwsIt yX4_throwsIt, Cond.code yX4_throwsIt cX4_throwsIt 2 (some .boolean), Cond.fieldLink RX4 39 "SplicedChainModel" "thrown" "I", Cond.methodLink RX4 60 yX4_apply, Cond.instanceMethod yX4_apply, Cond.selects RX4 yX4_apply yX4_apply, Cond.code yX4_apply cX4_apply 4 none, Cond.fieldLink RX4 50 "SplicedChainModel" "replies" "I", Cond.methodLink RX4 46 yX4_last, Cond.instanceMethod yX4_last, Cond.selects RX4 yX4_last yX4_last, Cond.code yX4_last cX4_last 1 (some .int), Cond.methodLink RL 64 yX4_thrown, Cond.instanceMethod yX4_thrown, Cond.selects RX4 yX4_thrown yX4_thrown, Cond.code yX4_thrown cX4_thrown 1 (some .int), Cond.methodLink RL 68 yL_read, Cond.static yL_read, Cond.codeWith yL_read cL_read 4 (some .int) [(0, 9, 12, 13), (0, 9, 15, 15)], Cond.methodLink RL 17 yX3_read, Cond.instanceMethod yX3_read, Cond.selects RX3 yX3_read yX3_read, Cond.code yX3_read cX3_read 3 (some .int)]
def wsL_law0_r7 : List Cond := [Cond.methodLink RL 71 yX4_read, Cond.instanceMethod yX4_read, Cond.selects RX4 yX4_read yX4_read, Cond.code yX4_read cX4_read 3 (some .int), Cond.methodLink RX4 64 yX4_valueOf, Cond.instanceMethod yX4_valueOf, Cond.selects RX4 yX4_valueOf yX4_valueOf, Cond.code yX4_valueOf cX4_valueOf 5 (some .int), Cond.methodLink RL 72 yL_deliver, Cond.static yL_deliver, Cond.codeWith yL_deliver cL_deliver 4 (some .int) [(0, 9, 12, 13), (0, 9, 15, 15), (0, 9, 18, 24)], Cond.classLink RL 24 "java/util/NoSuchElementException", Cond.methodLink RL 21 yX3_deliver, Cond.instanceMethod yX3_deliver, Cond.selects RX3 yX3_deliver yX3_deliver, Cond.code yX3_deliver cX3_deliver 4 (some .int), Cond.classLink RX3 83 "java/util/NoSuchElementException", Cond.initialized "java/util/NoSuchElementException", Cond.methodLink RX3 69 yX3_isNode, Cond.instanceMethod yX3_isNode, Cond.selects RX3 yX3_isNode yX3_isNode, Cond.code yX3_isNode cX3_isNode 2 (some .boolean), Cond.methodLink RX3 76 yX3_positionOf, Cond.instanceMethod yX3_positionOf]
def wsL_law0_r8 : List Cond := [Cond.selects RX3 yX3_positionOf yX3_positionOf, Cond.code yX3_positionOf cX3_positionOf 3 (some .int), Cond.methodLink RX3 80 yX3_updatesTowards, Cond.instanceMethod yX3_updatesTowards, Cond.selects RX3 yX3_updatesTowards yX3_updatesTowards, Cond.code yX3_updatesTowards cX3_updatesTowards 2 (some .int), Cond.methodLink RX3 98 yX2_take, Cond.instanceMethod yX2_take, Cond.selects RX2 yX2_take yX2_take, Cond.code yX2_take cX2_take 2 (some .int), Cond.methodLink RL 74 yX4_deliver, Cond.instanceMethod yX4_deliver, Cond.selects RX4 yX4_deliver yX4_deliver, Cond.code yX4_deliver cX4_deliver 4 (some .int), Cond.methodLink RX4 68 yX4_isNode, Cond.instanceMethod yX4_isNode, Cond.selects RX4 yX4_isNode yX4_isNode, Cond.code yX4_isNode cX4_isNode 2 (some .boolean), Cond.methodLink RX4 71 yX4_updatesTo, Cond.instanceMethod yX4_updatesTo, Cond.selects RX4 yX4_updatesTo yX4_updatesTo, Cond.code yX4_updatesTo cX4_updatesTo 3 (some .int), Cond.methodLink RX4 42 yX4_placeOf, Cond.instanceMethod yX4_placeOf]
def wsL_law0_r9 : List Cond := [Cond.selects RX4 yX4_placeOf yX4_placeOf, Cond.code yX4_placeOf cX4_placeOf 4 (some .int), Cond.methodLink RL 75 yL_acknowledge, Cond.static yL_acknowledge, Cond.codeWith yL_acknowledge cL_acknowledge 4 (some .int) [(0, 9, 12, 13), (0, 9, 15, 15), (0, 9, 18, 24)], Cond.methodLink RL 26 yX3_acknowledge, Cond.instanceMethod yX3_acknowledge, Cond.selects RX3 yX3_acknowledge yX3_acknowledge, Cond.code yX3_acknowledge cX3_acknowledge 4 (some .int), Cond.methodLink RX3 104 yX3_acknowledgementsTowards, Cond.instanceMethod yX3_acknowledgementsTowards, Cond.selects RX3 yX3_acknowledgementsTowards yX3_acknowledgementsTowards, Cond.code yX3_acknowledgementsTowards cX3_acknowledgementsTowards 3 (some .int), Cond.methodLink RL 77 yX4_acknowledge, Cond.instanceMethod yX4_acknowledge, Cond.selects RX4 yX4_acknowledge yX4_acknowledge, Cond.code yX4_acknowledge cX4_acknowledge 2 (some .int), Cond.methodLink RX4 74 yX4_acksTo, Cond.instanceMethod yX4_acksTo, Cond.selects RX4 yX4_acksTo yX4_acksTo, Cond.code yX4_acksTo cX4_acksTo 3 (some .int), Cond.methodLink RL 78 yL_fail, Cond.static yL_fail, Cond.codeWith yL_fail cL_fail 4 (some .int) [(0, 16, 19, 13)]]
def wsL_law0_r10 : List Cond := [Cond.methodLink RL 29 yX3_fail, Cond.instanceMethod yX3_fail, Cond.selects RX3 yX3_fail yX3_fail, Cond.code yX3_fail cX3_fail 2 (some .boolean), Cond.methodLink RX3 115 yX3_countStanding, Cond.instanceMethod yX3_countStanding, Cond.selects RX3 yX3_countStanding yX3_countStanding, Cond.code yX3_countStanding cX3_countStanding 3 (some .int), Cond.methodLink RX3 118 yX3_closeLinksAt, Cond.instanceMethod yX3_closeLinksAt, Cond.selects RX3 yX3_closeLinksAt yX3_closeLinksAt, Cond.code yX3_closeLinksAt cX3_closeLinksAt 2 none, Cond.methodLink RX3 162 yX0_close, Cond.instanceMethod yX0_close, Cond.selects RX0 yX0_close yX0_close, Cond.code yX0_close cX0_close 1 none, Cond.methodLink RX0 27 yX2_clear, Cond.instanceMethod yX2_clear, Cond.selects RX2 yX2_clear yX2_clear, Cond.code yX2_clear cX2_clear 1 none, Cond.methodLink RL 80 yX4_fail, Cond.instanceMethod yX4_fail, Cond.selects RX4 yX4_fail yX4_fail, Cond.code yX4_fail cX4_fail 4 (some .boolean)]
def wsL_law0_r11 : List Cond := [Cond.methodLink RL 81 yX3_repair, Cond.instanceMethod yX3_repair, Cond.selects RX3 yX3_repair yX3_repair, Cond.code yX3_repair cX3_repair 3 (some .int), Cond.methodLink RX3 122 yX3_tail, Cond.instanceMethod yX3_tail, Cond.selects RX3 yX3_tail yX3_tail, Cond.code yX3_tail cX3_tail 1 (some .int), Cond.methodLink RX3 125 yX3_takeOutFailed, Cond.instanceMethod yX3_takeOutFailed, Cond.selects RX3 yX3_takeOutFailed yX3_takeOutFailed, Cond.code yX3_takeOutFailed cX3_takeOutFailed 3 none, Cond.methodLink RX3 128 yX3_acknowledgeAllSentAtTail, Cond.instanceMethod yX3_acknowledgeAllSentAtTail, Cond.selects RX3 yX3_acknowledgeAllSentAtTail yX3_acknowledgeAllSentAtTail, Cond.code yX3_acknowledgeAllSentAtTail cX3_acknowledgeAllSentAtTail 4 none, Cond.methodLink RL 84 yX4_repair, Cond.instanceMethod yX4_repair, Cond.selects RX4 yX4_repair yX4_repair, Cond.code yX4_repair cX4_repair 5 (some .int), Cond.methodLink RL 85 yL_resync, Cond.static yL_resync, Cond.codeWith yL_resync cL_resync 4 (some .int) [(0, 9, 12, 13), (0, 9, 15, 15)], Cond.methodLink RL 33 yX3_resync]
def wsL_law0_r12 : List Cond := [Cond.instanceMethod yX3_resync, Cond.selects RX3 yX3_resync yX3_resync, Cond.code yX3_resync cX3_resync 7 (some .int), Cond.methodLink RX3 142 Lib.Math.max.name, Cond.static Lib.Math.max.name, Cond.initialized "java/lang/Math", Cond.code Lib.Math.max.name Lib.Math.max.code 2 (some .int), Cond.methodLink RX3 131 yX3_canResyncAt, Cond.instanceMethod yX3_canResyncAt, Cond.selects RX3 yX3_canResyncAt yX3_canResyncAt, Cond.code yX3_canResyncAt cX3_canResyncAt 3 (some .boolean), Cond.methodLink RL 87 yX4_resync, Cond.instanceMethod yX4_resync, Cond.selects RX4 yX4_resync yX4_resync, Cond.code yX4_resync cX4_resync 3 (some .int), Cond.methodLink RL 88 yX3_replied, Cond.instanceMethod yX3_replied, Cond.selects RX3 yX3_replied yX3_replied, Cond.code yX3_replied cX3_replied 2 (some .boolean), Cond.methodLink RL 91 yX4_replied, Cond.instanceMethod yX4_replied, Cond.selects RX4 yX4_replied yX4_replied, Cond.code yX4_replied cX4_replied 2 (some .boolean), Cond.methodLink RL 92 yX3_head]
def wsL_law0_r13 : List Cond := [Cond.instanceMethod yX3_head, Cond.selects RX3 yX3_head yX3_head, Cond.code yX3_head cX3_head 1 (some .int), Cond.methodLink RL 95 yX4_head, Cond.instanceMethod yX4_head, Cond.selects RX4 yX4_head yX4_head, Cond.code yX4_head cX4_head 1 (some .int), Cond.methodLink RL 96 yX3_tail, Cond.methodLink RL 99 yX4_tail, Cond.instanceMethod yX4_tail, Cond.selects RX4 yX4_tail yX4_tail, Cond.code yX4_tail cX4_tail 1 (some .int), Cond.methodLink RL 100 yL_valueAt, Cond.static yL_valueAt, Cond.codeWith yL_valueAt cL_valueAt 5 (some .int) [(0, 10, 13, 13)], Cond.methodLink RL 36 yX3_valueAt, Cond.instanceMethod yX3_valueAt, Cond.selects RX3 yX3_valueAt yX3_valueAt, Cond.code yX3_valueAt cX3_valueAt 3 (some .int), Cond.methodLink RL 102 yX4_valueAt, Cond.instanceMethod yX4_valueAt, Cond.selects RX4 yX4_valueAt yX4_valueAt, Cond.code yX4_valueAt cX4_valueAt 3 (some .int), Cond.methodLink RL 103 yL_history]
def wsL_law0_r14 : List Cond := [Cond.static yL_history, Cond.codeWith yL_history cL_history 4 (some .int) [(0, 9, 12, 13)], Cond.methodLink RL 39 yX3_history, Cond.instanceMethod yX3_history, Cond.selects RX3 yX3_history yX3_history, Cond.code yX3_history cX3_history 2 (some .int), Cond.methodLink RL 105 yX4_history, Cond.instanceMethod yX4_history, Cond.selects RX4 yX4_history yX4_history, Cond.code yX4_history cX4_history 2 (some .int), Cond.methodLink RL 106 yL_sent, Cond.static yL_sent, Cond.codeWith yL_sent cL_sent 4 (some .int) [(0, 9, 12, 13)], Cond.methodLink RL 42 yX3_sent, Cond.instanceMethod yX3_sent, Cond.selects RX3 yX3_sent yX3_sent, Cond.code yX3_sent cX3_sent 2 (some .int), Cond.methodLink RL 108 yX4_sent, Cond.instanceMethod yX4_sent, Cond.selects RX4 yX4_sent yX4_sent, Cond.code yX4_sent cX4_sent 2 (some .int), Cond.methodLink RL 109 yL_waiting, Cond.static yL_waiting, Cond.codeWith yL_waiting cL_waiting 4 (some .int) [(0, 9, 12, 13)]]
def wsL_law0_r15 : List Cond := [Cond.methodLink RL 45 yX3_waiting, Cond.instanceMethod yX3_waiting, Cond.selects RX3 yX3_waiting yX3_waiting, Cond.code yX3_waiting cX3_waiting 3 (some .int), Cond.methodLink RL 111 yX4_waiting, Cond.instanceMethod yX4_waiting, Cond.selects RX4 yX4_waiting yX4_waiting, Cond.code yX4_waiting cX4_waiting 2 (some .int), Cond.methodLink RL 112 yX3_lag, Cond.instanceMethod yX3_lag, Cond.selects RX3 yX3_lag yX3_lag, Cond.code yX3_lag cX3_lag 6 (some .double), Cond.methodLink RL 116 yX4_lag, Cond.instanceMethod yX4_lag, Cond.selects RX4 yX4_lag yX4_lag, Cond.code yX4_lag cX4_lag 5 (some .double)]
def wsL_law0 : List Cond := (wsL_law0_r1 ++ (wsL_law0_r2 ++ (wsL_law0_r3 ++ (wsL_law0_r4 ++ (wsL_law0_r5 ++ (wsL_law0_r6 ++ (wsL_law0_r7 ++ (wsL_law0_r8 ++ (wsL_law0_r9 ++ (wsL_law0_r10 ++ (wsL_law0_r11 ++ (wsL_law0_r12 ++ (wsL_law0_r13 ++ (wsL_law0_r14 ++ wsL_law0_r15)))))))))))))) ++ wsX30 ++ wsX40 ++ wsX10 ++ wsX00 ++ wsX20 ++ ([] : List Cond)
def wsL_law : List Cond := wsL_law0 ++ (vx_atS RX3 41 "java/lang/IllegalArgumentException" ["java/lang/RuntimeException", "java/lang/Exception"]).filter goodWord ++ (vx_atS RX3 59 "java/lang/IllegalStateException" ["java/lang/RuntimeException", "java/lang/Exception"]).filter goodWord ++ (nx_atS RX3 87).filter goodWord
set_option maxRecDepth 20000 in
theorem wsL_law_in0 : ∀ w ∈ wsL_law0, w ∈ lw_tbl := fun w h => (goodIn_p wsL_law0 [179, 40, 43, 49, 55, 61, 417, 188, 191, 143, 279, 155, 151, 159, 163, 283, 461, 465, 469, 473, 477, 457, 290, 481, 485, 299, 303, 309, 313, 333, 489, 493, 497, 501, 340, 344, 505, 509, 352, 356, 360, 364, 368, 513, 131, 135, 139, 147, 517, 375, 383, 379, 521, 167, 525, 171, 529, 533, 390, 537, 398, 541, 405, 545, 412, 549, 176, 553] (by decide +kernel) (by decide +kernel) w h).1
theorem wsL_law_x0 : ∀ w ∈ (vx_atS RX3 41 "java/lang/IllegalArgumentException" ["java/lang/RuntimeException", "java/lang/Exception"]).filter goodWord, w ∈ lw_tbl := by decide +kernel
theorem wsL_law_x1 : ∀ w ∈ (vx_atS RX3 59 "java/lang/IllegalStateException" ["java/lang/RuntimeException", "java/lang/Exception"]).filter goodWord, w ∈ lw_tbl := by decide +kernel
theorem wsL_law_x2 : ∀ w ∈ (nx_atS RX3 87).filter goodWord, w ∈ lw_tbl := by decide +kernel
theorem wsL_law_in : ∀ w ∈ wsL_law, w ∈ lw_tbl := fun w h => (List.mem_append.mp h).elim (fun h => (List.mem_append.mp h).elim (fun h => (List.mem_append.mp h).elim (fun h => wsL_law_in0 w h) (fun h => wsL_law_x0 w h)) (fun h => wsL_law_x1 w h)) (fun h => wsL_law_x2 w h)
theorem inlX0 : ∀ w ∈ wsX00, w ∈ wsL_law := fun _ h => List.mem_append_left _ (List.mem_append_left _ (List.mem_append_left _ (List.mem_append_left _ (List.mem_append_left _ (List.mem_append_right _ h)))))
theorem inX0 : ∀ w ∈ wsX00, w ∈ lw_tbl := fun w h => wsL_law_in w (inlX0 w h)
theorem inlX1 : ∀ w ∈ wsX10, w ∈ wsL_law := fun _ h => List.mem_append_left _ (List.mem_append_left _ (List.mem_append_left _ (List.mem_append_left _ (List.mem_append_left _ (List.mem_append_left _ (List.mem_append_right _ h))))))
theorem inX1 : ∀ w ∈ wsX10, w ∈ lw_tbl := fun w h => wsL_law_in w (inlX1 w h)
theorem inlX2 : ∀ w ∈ wsX20, w ∈ wsL_law := fun _ h => List.mem_append_left _ (List.mem_append_left _ (List.mem_append_left _ (List.mem_append_left _ (List.mem_append_right _ h))))
theorem inX2 : ∀ w ∈ wsX20, w ∈ lw_tbl := fun w h => wsL_law_in w (inlX2 w h)
theorem inlX3 : ∀ w ∈ wsX30, w ∈ wsL_law := fun _ h => List.mem_append_left _ (List.mem_append_left _ (List.mem_append_left _ (List.mem_append_left _ (List.mem_append_left _ (List.mem_append_left _ (List.mem_append_left _ (List.mem_append_left _ (List.mem_append_right _ h))))))))
theorem inX3 : ∀ w ∈ wsX30, w ∈ lw_tbl := fun w h => wsL_law_in w (inlX3 w h)
theorem inlX4 : ∀ w ∈ wsX40, w ∈ wsL_law := fun _ h => List.mem_append_left _ (List.mem_append_left _ (List.mem_append_left _ (List.mem_append_left _ (List.mem_append_left _ (List.mem_append_left _ (List.mem_append_left _ (List.mem_append_right _ h)))))))
theorem inX4 : ∀ w ∈ wsX40, w ∈ lw_tbl := fun w h => wsL_law_in w (inlX4 w h)
theorem inJx145de : ∀ w ∈ wsJx145de0, w ∈ lw_tbl := by decide +kernel
theorem inJ9 : ∀ w ∈ wsJ90, w ∈ lw_tbl := by decide +kernel
theorem inJ0 : ∀ w ∈ wsJ00, w ∈ lw_tbl := by decide +kernel
set_option maxRecDepth 20000 in
theorem ggX0_init_X2_init : GoodIn wsX0_init wsX2_init := goodIn_r _ [11, 12, 2, 3, 13, 14, 15, 16, 17, 18, 19] (by decide +kernel) (by decide +kernel)
set_option maxRecDepth 20000 in
theorem gX0_init_X2_init_n9 : GoodIn wsX0_init (wsX2_init) := ggX0_init_X2_init
theorem dX0_init_0 : decode cX0_init 0 = .ok (.aload_n 0, 1) := by decide +kernel
theorem dX0_init_1 : decode cX0_init 1 = .ok (.invokespecial 1, 3) := by decide +kernel
theorem dX0_init_4 : decode cX0_init 4 = .ok (.aload_n 0, 1) := by decide +kernel
theorem dX0_init_5 : decode cX0_init 5 = .ok (.new 7, 3) := by decide +kernel
theorem dX0_init_8 : decode cX0_init 8 = .ok (.dup, 1) := by decide +kernel
theorem dX0_init_9 : decode cX0_init 9 = .ok (.invokespecial 9, 3) := by decide +kernel
theorem dX0_init_12 : decode cX0_init 12 = .ok (.putfield 10, 3) := by decide +kernel
theorem dX0_init_15 : decode cX0_init 15 = .ok (.aload_n 0, 1) := by decide +kernel
theorem dX0_init_16 : decode cX0_init 16 = .ok (.new 7, 3) := by decide +kernel
theorem dX0_init_19 : decode cX0_init 19 = .ok (.dup, 1) := by decide +kernel
theorem dX0_init_20 : decode cX0_init 20 = .ok (.invokespecial 9, 3) := by decide +kernel
theorem dX0_init_23 : decode cX0_init 23 = .ok (.putfield 16, 3) := by decide +kernel
theorem dX0_init_26 : decode cX0_init 26 = .ok (.aload_n 0, 1) := by decide +kernel
theorem dX0_init_27 : decode cX0_init 27 = .ok (.iconst 1, 1) := by decide +kernel
theorem dX0_init_28 : decode cX0_init 28 = .ok (.putfield 19, 3) := by decide +kernel
theorem dX0_init_31 : decode cX0_init 31 = .ok (.return_, 1) := by decide +kernel
set_option maxRecDepth 20000 in
theorem ggX0_putUpdate_X2_put : GoodIn wsX0_putUpdate wsX2_put := goodIn_r _ [7, 8, 9, 10, 14, 15, 16] (by decide +kernel) (by decide +kernel)
set_option maxRecDepth 20000 in
theorem gX0_putUpdate_X2_put : GoodIn wsX0_putUpdate (wsV RX0 23 RX2 yX2_put wsX2_put) := goodIn_app (goodIn_of _ (by decide +kernel)) ggX0_putUpdate_X2_put
theorem dX0_putUpdate_0 : decode cX0_putUpdate 0 = .ok (.aload_n 0, 1) := by decide +kernel
theorem dX0_putUpdate_1 : decode cX0_putUpdate 1 = .ok (.getfield 19, 3) := by decide +kernel
theorem dX0_putUpdate_4 : decode cX0_putUpdate 4 = .ok (.ifCond .eq 11, 3) := by decide +kernel
theorem dX0_putUpdate_7 : decode cX0_putUpdate 7 = .ok (.aload_n 0, 1) := by decide +kernel
theorem dX0_putUpdate_8 : decode cX0_putUpdate 8 = .ok (.getfield 10, 3) := by decide +kernel
theorem dX0_putUpdate_11 : decode cX0_putUpdate 11 = .ok (.iload_n 1, 1) := by decide +kernel
theorem dX0_putUpdate_12 : decode cX0_putUpdate 12 = .ok (.invokevirtual 23, 3) := by decide +kernel
theorem dX0_putUpdate_15 : decode cX0_putUpdate 15 = .ok (.return_, 1) := by decide +kernel
set_option maxRecDepth 20000 in
theorem ggX0_putAcknowledgement_X2_put : GoodIn wsX0_putAcknowledgement wsX2_put := goodIn_r _ [7, 8, 9, 10, 14, 15, 16] (by decide +kernel) (by decide +kernel)
set_option maxRecDepth 20000 in
theorem gX0_putAcknowledgement_X2_put : GoodIn wsX0_putAcknowledgement (wsV RX0 23 RX2 yX2_put wsX2_put) := goodIn_app (goodIn_of _ (by decide +kernel)) ggX0_putAcknowledgement_X2_put
theorem dX0_putAcknowledgement_0 : decode cX0_putAcknowledgement 0 = .ok (.aload_n 0, 1) := by decide +kernel
theorem dX0_putAcknowledgement_1 : decode cX0_putAcknowledgement 1 = .ok (.getfield 19, 3) := by decide +kernel
theorem dX0_putAcknowledgement_4 : decode cX0_putAcknowledgement 4 = .ok (.ifCond .eq 11, 3) := by decide +kernel
theorem dX0_putAcknowledgement_7 : decode cX0_putAcknowledgement 7 = .ok (.aload_n 0, 1) := by decide +kernel
theorem dX0_putAcknowledgement_8 : decode cX0_putAcknowledgement 8 = .ok (.getfield 16, 3) := by decide +kernel
theorem dX0_putAcknowledgement_11 : decode cX0_putAcknowledgement 11 = .ok (.iload_n 1, 1) := by decide +kernel
theorem dX0_putAcknowledgement_12 : decode cX0_putAcknowledgement 12 = .ok (.invokevirtual 23, 3) := by decide +kernel
theorem dX0_putAcknowledgement_15 : decode cX0_putAcknowledgement 15 = .ok (.return_, 1) := by decide +kernel
set_option maxRecDepth 20000 in
theorem ggX0_close_X2_clear : GoodIn wsX0_close wsX2_clear := goodIn_r _ [8, 9, 13, 14, 15] (by decide +kernel) (by decide +kernel)
set_option maxRecDepth 20000 in
theorem gX0_close_X2_clear : GoodIn wsX0_close (wsV RX0 27 RX2 yX2_clear wsX2_clear) := goodIn_app (goodIn_of _ (by decide +kernel)) ggX0_close_X2_clear
theorem dX0_close_0 : decode cX0_close 0 = .ok (.aload_n 0, 1) := by decide +kernel
theorem dX0_close_1 : decode cX0_close 1 = .ok (.iconst 0, 1) := by decide +kernel
theorem dX0_close_2 : decode cX0_close 2 = .ok (.putfield 19, 3) := by decide +kernel
theorem dX0_close_5 : decode cX0_close 5 = .ok (.aload_n 0, 1) := by decide +kernel
theorem dX0_close_6 : decode cX0_close 6 = .ok (.getfield 10, 3) := by decide +kernel
theorem dX0_close_9 : decode cX0_close 9 = .ok (.invokevirtual 27, 3) := by decide +kernel
theorem dX0_close_12 : decode cX0_close 12 = .ok (.aload_n 0, 1) := by decide +kernel
theorem dX0_close_13 : decode cX0_close 13 = .ok (.getfield 16, 3) := by decide +kernel
theorem dX0_close_16 : decode cX0_close 16 = .ok (.invokevirtual 27, 3) := by decide +kernel
theorem dX0_close_19 : decode cX0_close 19 = .ok (.return_, 1) := by decide +kernel
set_option maxRecDepth 20000 in
theorem ggX1_init_X0_init : GoodIn wsX1_init wsX0_init := goodIn_r _ [14, 15, 2, 3, 16, 17, 18, 19, 20, 21, 22, 23, 24, 4, 25, 26, 27, 36, 37, 38, 33, 34, 35] (by decide +kernel) (by decide +kernel)
set_option maxRecDepth 20000 in
theorem gX1_init_X0_init_n17 : GoodIn wsX1_init (wsX0_init) := ggX1_init_X0_init
theorem dX1_init_0 : decode cX1_init 0 = .ok (.aload_n 0, 1) := by decide +kernel
theorem dX1_init_1 : decode cX1_init 1 = .ok (.invokespecial 3, 3) := by decide +kernel
theorem dX1_init_4 : decode cX1_init 4 = .ok (.aload_n 0, 1) := by decide +kernel
theorem dX1_init_5 : decode cX1_init 5 = .ok (.bipush 8, 2) := by decide +kernel
theorem dX1_init_7 : decode cX1_init 7 = .ok (.newarray .int, 2) := by decide +kernel
theorem dX1_init_9 : decode cX1_init 9 = .ok (.putfield 9, 3) := by decide +kernel
theorem dX1_init_12 : decode cX1_init 12 = .ok (.aload_n 0, 1) := by decide +kernel
theorem dX1_init_13 : decode cX1_init 13 = .ok (.new 15, 3) := by decide +kernel
theorem dX1_init_16 : decode cX1_init 16 = .ok (.dup, 1) := by decide +kernel
theorem dX1_init_17 : decode cX1_init 17 = .ok (.invokespecial 17, 3) := by decide +kernel
theorem dX1_init_20 : decode cX1_init 20 = .ok (.putfield 18, 3) := by decide +kernel
theorem dX1_init_23 : decode cX1_init 23 = .ok (.aload_n 0, 1) := by decide +kernel
theorem dX1_init_24 : decode cX1_init 24 = .ok (.iconst 0, 1) := by decide +kernel
theorem dX1_init_25 : decode cX1_init 25 = .ok (.putfield 22, 3) := by decide +kernel
theorem dX1_init_28 : decode cX1_init 28 = .ok (.aload_n 0, 1) := by decide +kernel
theorem dX1_init_29 : decode cX1_init 29 = .ok (.iconst 0, 1) := by decide +kernel
theorem dX1_init_30 : decode cX1_init 30 = .ok (.putfield 26, 3) := by decide +kernel
theorem dX1_init_33 : decode cX1_init 33 = .ok (.aload_n 0, 1) := by decide +kernel
theorem dX1_init_34 : decode cX1_init 34 = .ok (.iconst 0, 1) := by decide +kernel
theorem dX1_init_35 : decode cX1_init 35 = .ok (.putfield 29, 3) := by decide +kernel
theorem dX1_init_38 : decode cX1_init 38 = .ok (.return_, 1) := by decide +kernel
theorem dX2_init_0 : decode cX2_init 0 = .ok (.aload_n 0, 1) := by decide +kernel
theorem dX2_init_1 : decode cX2_init 1 = .ok (.invokespecial 3, 3) := by decide +kernel
theorem dX2_init_4 : decode cX2_init 4 = .ok (.aload_n 0, 1) := by decide +kernel
theorem dX2_init_5 : decode cX2_init 5 = .ok (.bipush 40, 2) := by decide +kernel
theorem dX2_init_7 : decode cX2_init 7 = .ok (.newarray .int, 2) := by decide +kernel
theorem dX2_init_9 : decode cX2_init 9 = .ok (.putfield 9, 3) := by decide +kernel
theorem dX2_init_12 : decode cX2_init 12 = .ok (.aload_n 0, 1) := by decide +kernel
theorem dX2_init_13 : decode cX2_init 13 = .ok (.iconst 0, 1) := by decide +kernel
theorem dX2_init_14 : decode cX2_init 14 = .ok (.putfield 15, 3) := by decide +kernel
theorem dX2_init_17 : decode cX2_init 17 = .ok (.aload_n 0, 1) := by decide +kernel
theorem dX2_init_18 : decode cX2_init 18 = .ok (.iconst 0, 1) := by decide +kernel
theorem dX2_init_19 : decode cX2_init 19 = .ok (.putfield 19, 3) := by decide +kernel
theorem dX2_init_22 : decode cX2_init 22 = .ok (.return_, 1) := by decide +kernel
theorem dX2_put_0 : decode cX2_put 0 = .ok (.aload_n 0, 1) := by decide +kernel
theorem dX2_put_1 : decode cX2_put 1 = .ok (.getfield 19, 3) := by decide +kernel
theorem dX2_put_4 : decode cX2_put 4 = .ok (.bipush 40, 2) := by decide +kernel
theorem dX2_put_6 : decode cX2_put 6 = .ok (.if_icmp .ge 31, 3) := by decide +kernel
theorem dX2_put_9 : decode cX2_put 9 = .ok (.aload_n 0, 1) := by decide +kernel
theorem dX2_put_10 : decode cX2_put 10 = .ok (.getfield 9, 3) := by decide +kernel
theorem dX2_put_13 : decode cX2_put 13 = .ok (.aload_n 0, 1) := by decide +kernel
theorem dX2_put_14 : decode cX2_put 14 = .ok (.getfield 15, 3) := by decide +kernel
theorem dX2_put_17 : decode cX2_put 17 = .ok (.aload_n 0, 1) := by decide +kernel
theorem dX2_put_18 : decode cX2_put 18 = .ok (.getfield 19, 3) := by decide +kernel
theorem dX2_put_21 : decode cX2_put 21 = .ok (.iadd, 1) := by decide +kernel
theorem dX2_put_22 : decode cX2_put 22 = .ok (.bipush 40, 2) := by decide +kernel
theorem dX2_put_24 : decode cX2_put 24 = .ok (.irem, 1) := by decide +kernel
theorem dX2_put_25 : decode cX2_put 25 = .ok (.iload_n 1, 1) := by decide +kernel
theorem dX2_put_26 : decode cX2_put 26 = .ok (.iastore, 1) := by decide +kernel
theorem dX2_put_27 : decode cX2_put 27 = .ok (.aload_n 0, 1) := by decide +kernel
theorem dX2_put_28 : decode cX2_put 28 = .ok (.dup, 1) := by decide +kernel
theorem dX2_put_29 : decode cX2_put 29 = .ok (.getfield 19, 3) := by decide +kernel
theorem dX2_put_32 : decode cX2_put 32 = .ok (.iconst 1, 1) := by decide +kernel
theorem dX2_put_33 : decode cX2_put 33 = .ok (.iadd, 1) := by decide +kernel
theorem dX2_put_34 : decode cX2_put 34 = .ok (.putfield 19, 3) := by decide +kernel
theorem dX2_put_37 : decode cX2_put 37 = .ok (.return_, 1) := by decide +kernel
theorem dX2_take_0 : decode cX2_take 0 = .ok (.aload_n 0, 1) := by decide +kernel
theorem dX2_take_1 : decode cX2_take 1 = .ok (.getfield 9, 3) := by decide +kernel
theorem dX2_take_4 : decode cX2_take 4 = .ok (.aload_n 0, 1) := by decide +kernel
theorem dX2_take_5 : decode cX2_take 5 = .ok (.getfield 15, 3) := by decide +kernel
theorem dX2_take_8 : decode cX2_take 8 = .ok (.iaload, 1) := by decide +kernel
theorem dX2_take_9 : decode cX2_take 9 = .ok (.istore_n 1, 1) := by decide +kernel
theorem dX2_take_10 : decode cX2_take 10 = .ok (.aload_n 0, 1) := by decide +kernel
theorem dX2_take_11 : decode cX2_take 11 = .ok (.aload_n 0, 1) := by decide +kernel
theorem dX2_take_12 : decode cX2_take 12 = .ok (.getfield 15, 3) := by decide +kernel
theorem dX2_take_15 : decode cX2_take 15 = .ok (.iconst 1, 1) := by decide +kernel
theorem dX2_take_16 : decode cX2_take 16 = .ok (.iadd, 1) := by decide +kernel
theorem dX2_take_17 : decode cX2_take 17 = .ok (.bipush 40, 2) := by decide +kernel
theorem dX2_take_19 : decode cX2_take 19 = .ok (.irem, 1) := by decide +kernel
theorem dX2_take_20 : decode cX2_take 20 = .ok (.putfield 15, 3) := by decide +kernel
theorem dX2_take_23 : decode cX2_take 23 = .ok (.aload_n 0, 1) := by decide +kernel
theorem dX2_take_24 : decode cX2_take 24 = .ok (.dup, 1) := by decide +kernel
theorem dX2_take_25 : decode cX2_take 25 = .ok (.getfield 19, 3) := by decide +kernel
theorem dX2_take_28 : decode cX2_take 28 = .ok (.iconst 1, 1) := by decide +kernel
theorem dX2_take_29 : decode cX2_take 29 = .ok (.isub, 1) := by decide +kernel
theorem dX2_take_30 : decode cX2_take 30 = .ok (.putfield 19, 3) := by decide +kernel
theorem dX2_take_33 : decode cX2_take 33 = .ok (.iload_n 1, 1) := by decide +kernel
theorem dX2_take_34 : decode cX2_take 34 = .ok (.ireturn, 1) := by decide +kernel
theorem dX2_clear_0 : decode cX2_clear 0 = .ok (.aload_n 0, 1) := by decide +kernel
theorem dX2_clear_1 : decode cX2_clear 1 = .ok (.iconst 0, 1) := by decide +kernel
theorem dX2_clear_2 : decode cX2_clear 2 = .ok (.putfield 19, 3) := by decide +kernel
theorem dX2_clear_5 : decode cX2_clear 5 = .ok (.return_, 1) := by decide +kernel
set_option maxRecDepth 20000 in
theorem ggX3_init_X1_init : GoodIn wsX3_init wsX1_init := goodIn_r _ [15, 16, 2, 3, 4, 17, 18, 19, 20, 21, 22, 23, 24, 25, 26, 27, 28, 29, 30, 31, 32, 33, 34, 35, 36, 37, 38, 39, 46, 47, 48, 49, 50, 51, 52, 53, 54, 55, 56] (by decide +kernel) (by decide +kernel)
set_option maxRecDepth 20000 in
theorem gX3_init_X1_init_n32 : GoodIn wsX3_init (wsX1_init) := ggX3_init_X1_init
theorem dX3_init_0 : decode cX3_init 0 = .ok (.aload_n 0, 1) := by decide +kernel
theorem dX3_init_1 : decode cX3_init 1 = .ok (.invokespecial 1, 3) := by decide +kernel
theorem dX3_init_4 : decode cX3_init 4 = .ok (.aload_n 0, 1) := by decide +kernel
theorem dX3_init_5 : decode cX3_init 5 = .ok (.bipush 41, 2) := by decide +kernel
theorem dX3_init_7 : decode cX3_init 7 = .ok (.newarray .int, 2) := by decide +kernel
theorem dX3_init_9 : decode cX3_init 9 = .ok (.putfield 9, 3) := by decide +kernel
theorem dX3_init_12 : decode cX3_init 12 = .ok (.aload_n 0, 1) := by decide +kernel
theorem dX3_init_13 : decode cX3_init 13 = .ok (.bipush 41, 2) := by decide +kernel
theorem dX3_init_15 : decode cX3_init 15 = .ok (.newarray .int, 2) := by decide +kernel
theorem dX3_init_17 : decode cX3_init 17 = .ok (.putfield 13, 3) := by decide +kernel
theorem dX3_init_20 : decode cX3_init 20 = .ok (.aload_n 0, 1) := by decide +kernel
theorem dX3_init_21 : decode cX3_init 21 = .ok (.iconst 0, 1) := by decide +kernel
theorem dX3_init_22 : decode cX3_init 22 = .ok (.putfield 16, 3) := by decide +kernel
theorem dX3_init_25 : decode cX3_init 25 = .ok (.iload_n 1, 1) := by decide +kernel
theorem dX3_init_26 : decode cX3_init 26 = .ok (.iconst 1, 1) := by decide +kernel
theorem dX3_init_27 : decode cX3_init 27 = .ok (.if_icmp .lt 13, 3) := by decide +kernel
theorem dX3_init_30 : decode cX3_init 30 = .ok (.iload_n 1, 1) := by decide +kernel
theorem dX3_init_31 : decode cX3_init 31 = .ok (.bipush 6, 2) := by decide +kernel
theorem dX3_init_33 : decode cX3_init 33 = .ok (.if_icmp .gt 7, 3) := by decide +kernel
theorem dX3_init_36 : decode cX3_init 36 = .ok (.iload_n 1, 1) := by decide +kernel
theorem dX3_init_37 : decode cX3_init 37 = .ok (.goto 4, 3) := by decide +kernel
theorem dX3_init_40 : decode cX3_init 40 = .ok (.iconst 3, 1) := by decide +kernel
theorem dX3_init_41 : decode cX3_init 41 = .ok (.istore_n 2, 1) := by decide +kernel
theorem dX3_init_42 : decode cX3_init 42 = .ok (.aload_n 0, 1) := by decide +kernel
theorem dX3_init_43 : decode cX3_init 43 = .ok (.iload_n 2, 1) := by decide +kernel
theorem dX3_init_44 : decode cX3_init 44 = .ok (.anewarray 20, 3) := by decide +kernel
theorem dX3_init_47 : decode cX3_init 47 = .ok (.putfield 22, 3) := by decide +kernel
theorem dX3_init_50 : decode cX3_init 50 = .ok (.aload_n 0, 1) := by decide +kernel
theorem dX3_init_51 : decode cX3_init 51 = .ok (.iload_n 2, 1) := by decide +kernel
theorem dX3_init_52 : decode cX3_init 52 = .ok (.newarray .int, 2) := by decide +kernel
theorem dX3_init_54 : decode cX3_init 54 = .ok (.putfield 26, 3) := by decide +kernel
theorem dX3_init_57 : decode cX3_init 57 = .ok (.aload_n 0, 1) := by decide +kernel
theorem dX3_init_58 : decode cX3_init 58 = .ok (.iload_n 2, 1) := by decide +kernel
theorem dX3_init_59 : decode cX3_init 59 = .ok (.putfield 29, 3) := by decide +kernel
theorem dX3_init_62 : decode cX3_init 62 = .ok (.iconst 0, 1) := by decide +kernel
theorem dX3_init_63 : decode cX3_init 63 = .ok (.istore_n 3, 1) := by decide +kernel
theorem dX3_init_64 : decode cX3_init 64 = .ok (.iload_n 3, 1) := by decide +kernel
theorem dX3_init_65 : decode cX3_init 65 = .ok (.iload_n 2, 1) := by decide +kernel
theorem dX3_init_66 : decode cX3_init 66 = .ok (.if_icmp .ge 29, 3) := by decide +kernel
theorem dX3_init_69 : decode cX3_init 69 = .ok (.aload_n 0, 1) := by decide +kernel
theorem dX3_init_70 : decode cX3_init 70 = .ok (.getfield 22, 3) := by decide +kernel
theorem dX3_init_73 : decode cX3_init 73 = .ok (.iload_n 3, 1) := by decide +kernel
theorem dX3_init_74 : decode cX3_init 74 = .ok (.new 20, 3) := by decide +kernel
theorem dX3_init_77 : decode cX3_init 77 = .ok (.dup, 1) := by decide +kernel
theorem dX3_init_78 : decode cX3_init 78 = .ok (.invokespecial 32, 3) := by decide +kernel
theorem dX3_init_81 : decode cX3_init 81 = .ok (.aastore, 1) := by decide +kernel
theorem dX3_init_82 : decode cX3_init 82 = .ok (.aload_n 0, 1) := by decide +kernel
theorem dX3_init_83 : decode cX3_init 83 = .ok (.getfield 26, 3) := by decide +kernel
theorem dX3_init_86 : decode cX3_init 86 = .ok (.iload_n 3, 1) := by decide +kernel
theorem dX3_init_87 : decode cX3_init 87 = .ok (.iload_n 3, 1) := by decide +kernel
theorem dX3_init_88 : decode cX3_init 88 = .ok (.iastore, 1) := by decide +kernel
theorem dX3_init_89 : decode cX3_init 89 = .ok (.iinc 3 1, 3) := by decide +kernel
theorem dX3_init_92 : decode cX3_init 92 = .ok (.goto (-28), 3) := by decide +kernel
theorem dX3_init_95 : decode cX3_init 95 = .ok (.return_, 1) := by decide +kernel
set_option maxRecDepth 20000 in
theorem ggX3_write_X3_isKey : GoodIn wsX3_write wsX3_isKey := goodIn_r _ [10] (by decide +kernel) (by decide +kernel)
set_option maxRecDepth 20000 in
theorem gX3_write_X3_isKey : GoodIn wsX3_write (va_wsS RX3 33 yX3_isKey wsX3_isKey) := goodIn_app (goodIn_of _ (by decide +kernel)) ggX3_write_X3_isKey
set_option maxRecDepth 20000 in
theorem ggX3_write_X3_nodeAt : GoodIn wsX3_write wsX3_nodeAt := goodIn_r _ [14, 15, 16, 56, 57, 58, 59, 60, 61] (by decide +kernel) (by decide +kernel)
set_option maxRecDepth 20000 in
theorem gX3_write_X3_nodeAt : GoodIn wsX3_write (wsV RX3 44 RX3 yX3_nodeAt wsX3_nodeAt) := goodIn_app (goodIn_of _ (by decide +kernel)) ggX3_write_X3_nodeAt
set_option maxRecDepth 20000 in
theorem ggX3_write_X3_applyAt : GoodIn wsX3_write wsX3_applyAt := goodIn_r _ [20, 5, 6, 11, 12, 13, 9, 14, 15, 16, 21, 22, 23, 24, 25, 26, 27, 28, 29, 30, 31, 32, 33, 34, 35, 36, 37, 38, 39, 40, 41, 42, 43, 44, 45, 46, 47, 48, 49, 50, 51, 52, 53, 54, 55, 56, 57, 58, 59, 60, 61, 62, 63, 64, 65, 66, 67] (by decide +kernel) (by decide +kernel)
set_option maxRecDepth 20000 in
theorem gX3_write_X3_applyAt : GoodIn wsX3_write (wsV RX3 60 RX3 yX3_applyAt wsX3_applyAt) := goodIn_app (goodIn_of _ (by decide +kernel)) ggX3_write_X3_applyAt
theorem dX3_write_0 : decode cX3_write 0 = .ok (.iload_n 1, 1) := by decide +kernel
theorem dX3_write_1 : decode cX3_write 1 = .ok (.invokestatic 33, 3) := by decide +kernel
theorem dX3_write_4 : decode cX3_write 4 = .ok (.ifCond .ne 13, 3) := by decide +kernel
theorem dX3_write_7 : decode cX3_write 7 = .ok (.new 37, 3) := by decide +kernel
theorem dX3_write_10 : decode cX3_write 10 = .ok (.dup, 1) := by decide +kernel
theorem dX3_write_11 : decode cX3_write 11 = .ok (.ldc 39, 2) := by decide +kernel
theorem dX3_write_13 : decode cX3_write 13 = .ok (.invokespecial 41, 3) := by decide +kernel
theorem dX3_write_16 : decode cX3_write 16 = .ok (.athrow, 1) := by decide +kernel
theorem dX3_write_17 : decode cX3_write 17 = .ok (.aload_n 0, 1) := by decide +kernel
theorem dX3_write_18 : decode cX3_write 18 = .ok (.iconst 0, 1) := by decide +kernel
theorem dX3_write_19 : decode cX3_write 19 = .ok (.invokevirtual 44, 3) := by decide +kernel
theorem dX3_write_22 : decode cX3_write 22 = .ok (.astore_n 3, 1) := by decide +kernel
theorem dX3_write_23 : decode cX3_write 23 = .ok (.aload_n 3, 1) := by decide +kernel
theorem dX3_write_24 : decode cX3_write 24 = .ok (.getfield 48, 3) := by decide +kernel
theorem dX3_write_27 : decode cX3_write 27 = .ok (.ifCond .ne 12, 3) := by decide +kernel
theorem dX3_write_30 : decode cX3_write 30 = .ok (.aload_n 3, 1) := by decide +kernel
theorem dX3_write_31 : decode cX3_write 31 = .ok (.getfield 52, 3) := by decide +kernel
theorem dX3_write_34 : decode cX3_write 34 = .ok (.bipush 40, 2) := by decide +kernel
theorem dX3_write_36 : decode cX3_write 36 = .ok (.if_icmp .lt 13, 3) := by decide +kernel
theorem dX3_write_39 : decode cX3_write 39 = .ok (.new 55, 3) := by decide +kernel
theorem dX3_write_42 : decode cX3_write 42 = .ok (.dup, 1) := by decide +kernel
theorem dX3_write_43 : decode cX3_write 43 = .ok (.ldc 57, 2) := by decide +kernel
theorem dX3_write_45 : decode cX3_write 45 = .ok (.invokespecial 59, 3) := by decide +kernel
theorem dX3_write_48 : decode cX3_write 48 = .ok (.athrow, 1) := by decide +kernel
theorem dX3_write_49 : decode cX3_write 49 = .ok (.aload_n 3, 1) := by decide +kernel
theorem dX3_write_50 : decode cX3_write 50 = .ok (.getfield 52, 3) := by decide +kernel
theorem dX3_write_53 : decode cX3_write 53 = .ok (.iconst 1, 1) := by decide +kernel
theorem dX3_write_54 : decode cX3_write 54 = .ok (.iadd, 1) := by decide +kernel
theorem dX3_write_55 : decode cX3_write 55 = .ok (.istore 4, 2) := by decide +kernel
theorem dX3_write_57 : decode cX3_write 57 = .ok (.aload_n 0, 1) := by decide +kernel
theorem dX3_write_58 : decode cX3_write 58 = .ok (.getfield 9, 3) := by decide +kernel
theorem dX3_write_61 : decode cX3_write 61 = .ok (.iload 4, 2) := by decide +kernel
theorem dX3_write_63 : decode cX3_write 63 = .ok (.iload_n 1, 1) := by decide +kernel
theorem dX3_write_64 : decode cX3_write 64 = .ok (.iastore, 1) := by decide +kernel
theorem dX3_write_65 : decode cX3_write 65 = .ok (.aload_n 0, 1) := by decide +kernel
theorem dX3_write_66 : decode cX3_write 66 = .ok (.getfield 13, 3) := by decide +kernel
theorem dX3_write_69 : decode cX3_write 69 = .ok (.iload 4, 2) := by decide +kernel
theorem dX3_write_71 : decode cX3_write 71 = .ok (.iload_n 2, 1) := by decide +kernel
theorem dX3_write_72 : decode cX3_write 72 = .ok (.iastore, 1) := by decide +kernel
theorem dX3_write_73 : decode cX3_write 73 = .ok (.aload_n 0, 1) := by decide +kernel
theorem dX3_write_74 : decode cX3_write 74 = .ok (.iconst 0, 1) := by decide +kernel
theorem dX3_write_75 : decode cX3_write 75 = .ok (.iload 4, 2) := by decide +kernel
theorem dX3_write_77 : decode cX3_write 77 = .ok (.invokevirtual 60, 3) := by decide +kernel
theorem dX3_write_80 : decode cX3_write 80 = .ok (.iload 4, 2) := by decide +kernel
theorem dX3_write_82 : decode cX3_write 82 = .ok (.ireturn, 1) := by decide +kernel
set_option maxRecDepth 20000 in
theorem ggX3_read_X3_isKey : GoodIn wsX3_read wsX3_isKey := goodIn_r _ [9] (by decide +kernel) (by decide +kernel)
set_option maxRecDepth 20000 in
theorem gX3_read_X3_isKey : GoodIn wsX3_read (va_wsS RX3 33 yX3_isKey wsX3_isKey) := goodIn_app (goodIn_of _ (by decide +kernel)) ggX3_read_X3_isKey
set_option maxRecDepth 20000 in
theorem ggX3_read_X3_nodeAt : GoodIn wsX3_read wsX3_nodeAt := goodIn_r _ [13, 14, 15, 16, 17, 18, 19, 20, 21] (by decide +kernel) (by decide +kernel)
set_option maxRecDepth 20000 in
theorem gX3_read_X3_nodeAt : GoodIn wsX3_read (wsV RX3 44 RX3 yX3_nodeAt wsX3_nodeAt) := goodIn_app (goodIn_of _ (by decide +kernel)) ggX3_read_X3_nodeAt
theorem dX3_read_0 : decode cX3_read 0 = .ok (.iload_n 1, 1) := by decide +kernel
theorem dX3_read_1 : decode cX3_read 1 = .ok (.invokestatic 33, 3) := by decide +kernel
theorem dX3_read_4 : decode cX3_read 4 = .ok (.ifCond .ne 13, 3) := by decide +kernel
theorem dX3_read_7 : decode cX3_read 7 = .ok (.new 37, 3) := by decide +kernel
theorem dX3_read_10 : decode cX3_read 10 = .ok (.dup, 1) := by decide +kernel
theorem dX3_read_11 : decode cX3_read 11 = .ok (.ldc 39, 2) := by decide +kernel
theorem dX3_read_13 : decode cX3_read 13 = .ok (.invokespecial 41, 3) := by decide +kernel
theorem dX3_read_16 : decode cX3_read 16 = .ok (.athrow, 1) := by decide +kernel
theorem dX3_read_17 : decode cX3_read 17 = .ok (.aload_n 0, 1) := by decide +kernel
theorem dX3_read_18 : decode cX3_read 18 = .ok (.aload_n 0, 1) := by decide +kernel
theorem dX3_read_19 : decode cX3_read 19 = .ok (.getfield 29, 3) := by decide +kernel
theorem dX3_read_22 : decode cX3_read 22 = .ok (.iconst 1, 1) := by decide +kernel
theorem dX3_read_23 : decode cX3_read 23 = .ok (.isub, 1) := by decide +kernel
theorem dX3_read_24 : decode cX3_read 24 = .ok (.invokevirtual 44, 3) := by decide +kernel
theorem dX3_read_27 : decode cX3_read 27 = .ok (.astore_n 2, 1) := by decide +kernel
theorem dX3_read_28 : decode cX3_read 28 = .ok (.aload_n 2, 1) := by decide +kernel
theorem dX3_read_29 : decode cX3_read 29 = .ok (.getfield 48, 3) := by decide +kernel
theorem dX3_read_32 : decode cX3_read 32 = .ok (.ifCond .eq 13, 3) := by decide +kernel
theorem dX3_read_35 : decode cX3_read 35 = .ok (.new 55, 3) := by decide +kernel
theorem dX3_read_38 : decode cX3_read 38 = .ok (.dup, 1) := by decide +kernel
theorem dX3_read_39 : decode cX3_read 39 = .ok (.ldc 64, 2) := by decide +kernel
theorem dX3_read_41 : decode cX3_read 41 = .ok (.invokespecial 59, 3) := by decide +kernel
theorem dX3_read_44 : decode cX3_read 44 = .ok (.athrow, 1) := by decide +kernel
theorem dX3_read_45 : decode cX3_read 45 = .ok (.aload_n 2, 1) := by decide +kernel
theorem dX3_read_46 : decode cX3_read 46 = .ok (.getfield 66, 3) := by decide +kernel
theorem dX3_read_49 : decode cX3_read 49 = .ok (.iload_n 1, 1) := by decide +kernel
theorem dX3_read_50 : decode cX3_read 50 = .ok (.iaload, 1) := by decide +kernel
theorem dX3_read_51 : decode cX3_read 51 = .ok (.ireturn, 1) := by decide +kernel
set_option maxRecDepth 20000 in
theorem ggX3_deliver_X3_isNode : GoodIn wsX3_deliver wsX3_isNode := goodIn_r _ [12, 7, 66, 67, 68, 69, 70, 71] (by decide +kernel) (by decide +kernel)
set_option maxRecDepth 20000 in
theorem gX3_deliver_X3_isNode : GoodIn wsX3_deliver (wsV RX3 69 RX3 yX3_isNode wsX3_isNode) := goodIn_app (goodIn_of _ (by decide +kernel)) ggX3_deliver_X3_isNode
set_option maxRecDepth 20000 in
theorem ggX3_deliver_X3_positionOf : GoodIn wsX3_deliver wsX3_positionOf := goodIn_r _ [16, 17, 18, 66, 67, 68, 69, 70, 71] (by decide +kernel) (by decide +kernel)
set_option maxRecDepth 20000 in
theorem gX3_deliver_X3_positionOf : GoodIn wsX3_deliver (wsV RX3 76 RX3 yX3_positionOf wsX3_positionOf) := goodIn_app (goodIn_of _ (by decide +kernel)) ggX3_deliver_X3_positionOf
set_option maxRecDepth 20000 in
theorem ggX3_deliver_X3_updatesTowards : GoodIn wsX3_deliver wsX3_updatesTowards := goodIn_r _ [22, 23, 24, 25, 11, 26, 7, 18, 72, 73, 74, 75, 76, 77, 78, 79, 80, 81, 82, 66, 67, 68, 69, 70, 71] (by decide +kernel) (by decide +kernel)
set_option maxRecDepth 20000 in
theorem gX3_deliver_X3_updatesTowards : GoodIn wsX3_deliver (wsV RX3 80 RX3 yX3_updatesTowards wsX3_updatesTowards) := goodIn_app (goodIn_of _ (by decide +kernel)) ggX3_deliver_X3_updatesTowards
set_option maxRecDepth 20000 in
theorem ggX3_deliver_X3_nodeAt : GoodIn wsX3_deliver wsX3_nodeAt := goodIn_r _ [26, 7, 18, 66, 67, 68, 69, 70, 71] (by decide +kernel) (by decide +kernel)
set_option maxRecDepth 20000 in
theorem gX3_deliver_X3_nodeAt : GoodIn wsX3_deliver (wsV RX3 44 RX3 yX3_nodeAt wsX3_nodeAt) := goodIn_app (goodIn_of _ (by decide +kernel)) ggX3_deliver_X3_nodeAt
set_option maxRecDepth 20000 in
theorem ggX3_deliver_X2_take : GoodIn wsX3_deliver wsX2_take := goodIn_r _ [31, 32, 33, 34, 80, 81, 82] (by decide +kernel) (by decide +kernel)
set_option maxRecDepth 20000 in
theorem gX3_deliver_X2_take : GoodIn wsX3_deliver (wsV RX3 98 RX2 yX2_take wsX2_take) := goodIn_app (goodIn_of _ (by decide +kernel)) ggX3_deliver_X2_take
set_option maxRecDepth 20000 in
theorem ggX3_deliver_X3_applyAt : GoodIn wsX3_deliver wsX3_applyAt := goodIn_r _ [38, 39, 40, 23, 24, 25, 11, 26, 7, 18, 41, 42, 43, 44, 17, 45, 46, 47, 48, 49, 50, 51, 52, 53, 54, 55, 56, 57, 58, 59, 30, 60, 34, 32, 33, 61, 62, 63, 64, 65, 72, 73, 74, 75, 76, 66, 67, 68, 69, 70, 71, 77, 78, 79, 80, 81, 82] (by decide +kernel) (by decide +kernel)
set_option maxRecDepth 20000 in
theorem gX3_deliver_X3_applyAt : GoodIn wsX3_deliver (wsV RX3 60 RX3 yX3_applyAt wsX3_applyAt) := goodIn_app (goodIn_of _ (by decide +kernel)) ggX3_deliver_X3_applyAt
theorem dX3_deliver_0 : decode cX3_deliver 0 = .ok (.aload_n 0, 1) := by decide +kernel
theorem dX3_deliver_1 : decode cX3_deliver 1 = .ok (.iload_n 1, 1) := by decide +kernel
theorem dX3_deliver_2 : decode cX3_deliver 2 = .ok (.invokevirtual 69, 3) := by decide +kernel
theorem dX3_deliver_5 : decode cX3_deliver 5 = .ok (.ifCond .ne 13, 3) := by decide +kernel
theorem dX3_deliver_8 : decode cX3_deliver 8 = .ok (.new 37, 3) := by decide +kernel
theorem dX3_deliver_11 : decode cX3_deliver 11 = .ok (.dup, 1) := by decide +kernel
theorem dX3_deliver_12 : decode cX3_deliver 12 = .ok (.ldc 72, 2) := by decide +kernel
theorem dX3_deliver_14 : decode cX3_deliver 14 = .ok (.invokespecial 41, 3) := by decide +kernel
theorem dX3_deliver_17 : decode cX3_deliver 17 = .ok (.athrow, 1) := by decide +kernel
theorem dX3_deliver_18 : decode cX3_deliver 18 = .ok (.aload_n 0, 1) := by decide +kernel
theorem dX3_deliver_19 : decode cX3_deliver 19 = .ok (.getfield 22, 3) := by decide +kernel
theorem dX3_deliver_22 : decode cX3_deliver 22 = .ok (.iload_n 1, 1) := by decide +kernel
theorem dX3_deliver_23 : decode cX3_deliver 23 = .ok (.aaload, 1) := by decide +kernel
theorem dX3_deliver_24 : decode cX3_deliver 24 = .ok (.getfield 48, 3) := by decide +kernel
theorem dX3_deliver_27 : decode cX3_deliver 27 = .ok (.ifCond .eq 13, 3) := by decide +kernel
theorem dX3_deliver_30 : decode cX3_deliver 30 = .ok (.new 55, 3) := by decide +kernel
theorem dX3_deliver_33 : decode cX3_deliver 33 = .ok (.dup, 1) := by decide +kernel
theorem dX3_deliver_34 : decode cX3_deliver 34 = .ok (.ldc 74, 2) := by decide +kernel
theorem dX3_deliver_36 : decode cX3_deliver 36 = .ok (.invokespecial 59, 3) := by decide +kernel
theorem dX3_deliver_39 : decode cX3_deliver 39 = .ok (.athrow, 1) := by decide +kernel
theorem dX3_deliver_40 : decode cX3_deliver 40 = .ok (.aload_n 0, 1) := by decide +kernel
theorem dX3_deliver_41 : decode cX3_deliver 41 = .ok (.iload_n 1, 1) := by decide +kernel
theorem dX3_deliver_42 : decode cX3_deliver 42 = .ok (.invokevirtual 76, 3) := by decide +kernel
theorem dX3_deliver_45 : decode cX3_deliver 45 = .ok (.istore_n 2, 1) := by decide +kernel
theorem dX3_deliver_46 : decode cX3_deliver 46 = .ok (.aload_n 0, 1) := by decide +kernel
theorem dX3_deliver_47 : decode cX3_deliver 47 = .ok (.iload_n 2, 1) := by decide +kernel
theorem dX3_deliver_48 : decode cX3_deliver 48 = .ok (.invokevirtual 80, 3) := by decide +kernel
theorem dX3_deliver_51 : decode cX3_deliver 51 = .ok (.ifCond .ne 13, 3) := by decide +kernel
theorem dX3_deliver_54 : decode cX3_deliver 54 = .ok (.new 83, 3) := by decide +kernel
theorem dX3_deliver_57 : decode cX3_deliver 57 = .ok (.dup, 1) := by decide +kernel
theorem dX3_deliver_58 : decode cX3_deliver 58 = .ok (.ldc 85, 2) := by decide +kernel
theorem dX3_deliver_60 : decode cX3_deliver 60 = .ok (.invokespecial 87, 3) := by decide +kernel
theorem dX3_deliver_63 : decode cX3_deliver 63 = .ok (.athrow, 1) := by decide +kernel
theorem dX3_deliver_64 : decode cX3_deliver 64 = .ok (.aload_n 0, 1) := by decide +kernel
theorem dX3_deliver_65 : decode cX3_deliver 65 = .ok (.iload_n 2, 1) := by decide +kernel
theorem dX3_deliver_66 : decode cX3_deliver 66 = .ok (.iconst 1, 1) := by decide +kernel
theorem dX3_deliver_67 : decode cX3_deliver 67 = .ok (.isub, 1) := by decide +kernel
theorem dX3_deliver_68 : decode cX3_deliver 68 = .ok (.invokevirtual 44, 3) := by decide +kernel
theorem dX3_deliver_71 : decode cX3_deliver 71 = .ok (.getfield 88, 3) := by decide +kernel
theorem dX3_deliver_74 : decode cX3_deliver 74 = .ok (.getfield 92, 3) := by decide +kernel
theorem dX3_deliver_77 : decode cX3_deliver 77 = .ok (.invokevirtual 98, 3) := by decide +kernel
theorem dX3_deliver_80 : decode cX3_deliver 80 = .ok (.istore_n 3, 1) := by decide +kernel
theorem dX3_deliver_81 : decode cX3_deliver 81 = .ok (.aload_n 0, 1) := by decide +kernel
theorem dX3_deliver_82 : decode cX3_deliver 82 = .ok (.iload_n 2, 1) := by decide +kernel
theorem dX3_deliver_83 : decode cX3_deliver 83 = .ok (.iload_n 3, 1) := by decide +kernel
theorem dX3_deliver_84 : decode cX3_deliver 84 = .ok (.invokevirtual 60, 3) := by decide +kernel
theorem dX3_deliver_87 : decode cX3_deliver 87 = .ok (.iload_n 3, 1) := by decide +kernel
theorem dX3_deliver_88 : decode cX3_deliver 88 = .ok (.ireturn, 1) := by decide +kernel
set_option maxRecDepth 20000 in
theorem ggX3_acknowledge_X3_isNode : GoodIn wsX3_acknowledge wsX3_isNode := goodIn_r _ [12, 7, 55, 56, 57, 58, 59, 60] (by decide +kernel) (by decide +kernel)
set_option maxRecDepth 20000 in
theorem gX3_acknowledge_X3_isNode : GoodIn wsX3_acknowledge (wsV RX3 69 RX3 yX3_isNode wsX3_isNode) := goodIn_app (goodIn_of _ (by decide +kernel)) ggX3_acknowledge_X3_isNode
set_option maxRecDepth 20000 in
theorem ggX3_acknowledge_X3_positionOf : GoodIn wsX3_acknowledge wsX3_positionOf := goodIn_r _ [16, 17, 18, 55, 56, 57, 58, 59, 60] (by decide +kernel) (by decide +kernel)
set_option maxRecDepth 20000 in
theorem gX3_acknowledge_X3_positionOf : GoodIn wsX3_acknowledge (wsV RX3 76 RX3 yX3_positionOf wsX3_positionOf) := goodIn_app (goodIn_of _ (by decide +kernel)) ggX3_acknowledge_X3_positionOf
set_option maxRecDepth 20000 in
theorem ggX3_acknowledge_X3_acknowledgementsTowards : GoodIn wsX3_acknowledge wsX3_acknowledgementsTowards := goodIn_r _ [22, 23, 24, 25, 11, 26, 17, 27, 28, 29, 30, 7, 18, 61, 62, 63, 64, 65, 66, 67, 68, 69, 70, 71, 55, 56, 57, 58, 59, 60] (by decide +kernel) (by decide +kernel)
set_option maxRecDepth 20000 in
theorem gX3_acknowledge_X3_acknowledgementsTowards : GoodIn wsX3_acknowledge (wsV RX3 104 RX3 yX3_acknowledgementsTowards wsX3_acknowledgementsTowards) := goodIn_app (goodIn_of _ (by decide +kernel)) ggX3_acknowledge_X3_acknowledgementsTowards
set_option maxRecDepth 20000 in
theorem ggX3_acknowledge_X3_nodeAt : GoodIn wsX3_acknowledge wsX3_nodeAt := goodIn_r _ [30, 7, 18, 55, 56, 57, 58, 59, 60] (by decide +kernel) (by decide +kernel)
set_option maxRecDepth 20000 in
theorem gX3_acknowledge_X3_nodeAt : GoodIn wsX3_acknowledge (wsV RX3 44 RX3 yX3_nodeAt wsX3_nodeAt) := goodIn_app (goodIn_of _ (by decide +kernel)) ggX3_acknowledge_X3_nodeAt
set_option maxRecDepth 20000 in
theorem ggX3_acknowledge_X2_take : GoodIn wsX3_acknowledge wsX2_take := goodIn_r _ [35, 36, 37, 38, 69, 70, 71] (by decide +kernel) (by decide +kernel)
set_option maxRecDepth 20000 in
theorem gX3_acknowledge_X2_take : GoodIn wsX3_acknowledge (wsV RX3 98 RX2 yX2_take wsX2_take) := goodIn_app (goodIn_of _ (by decide +kernel)) ggX3_acknowledge_X2_take
set_option maxRecDepth 20000 in
theorem ggX3_acknowledge_X3_acknowledgeAt : GoodIn wsX3_acknowledge wsX3_acknowledgeAt := goodIn_r _ [42, 43, 27, 28, 29, 11, 30, 7, 18, 23, 24, 25, 26, 17, 44, 45, 46, 47, 48, 49, 50, 51, 52, 53, 34, 54, 38, 36, 37, 61, 62, 63, 64, 65, 55, 56, 57, 58, 59, 60, 66, 67, 68, 69, 70, 71] (by decide +kernel) (by decide +kernel)
set_option maxRecDepth 20000 in
theorem gX3_acknowledge_X3_acknowledgeAt : GoodIn wsX3_acknowledge (wsV RX3 112 RX3 yX3_acknowledgeAt wsX3_acknowledgeAt) := goodIn_app (goodIn_of _ (by decide +kernel)) ggX3_acknowledge_X3_acknowledgeAt
theorem dX3_acknowledge_0 : decode cX3_acknowledge 0 = .ok (.aload_n 0, 1) := by decide +kernel
theorem dX3_acknowledge_1 : decode cX3_acknowledge 1 = .ok (.iload_n 1, 1) := by decide +kernel
theorem dX3_acknowledge_2 : decode cX3_acknowledge 2 = .ok (.invokevirtual 69, 3) := by decide +kernel
theorem dX3_acknowledge_5 : decode cX3_acknowledge 5 = .ok (.ifCond .ne 13, 3) := by decide +kernel
theorem dX3_acknowledge_8 : decode cX3_acknowledge 8 = .ok (.new 37, 3) := by decide +kernel
theorem dX3_acknowledge_11 : decode cX3_acknowledge 11 = .ok (.dup, 1) := by decide +kernel
theorem dX3_acknowledge_12 : decode cX3_acknowledge 12 = .ok (.ldc 72, 2) := by decide +kernel
theorem dX3_acknowledge_14 : decode cX3_acknowledge 14 = .ok (.invokespecial 41, 3) := by decide +kernel
theorem dX3_acknowledge_17 : decode cX3_acknowledge 17 = .ok (.athrow, 1) := by decide +kernel
theorem dX3_acknowledge_18 : decode cX3_acknowledge 18 = .ok (.aload_n 0, 1) := by decide +kernel
theorem dX3_acknowledge_19 : decode cX3_acknowledge 19 = .ok (.getfield 22, 3) := by decide +kernel
theorem dX3_acknowledge_22 : decode cX3_acknowledge 22 = .ok (.iload_n 1, 1) := by decide +kernel
theorem dX3_acknowledge_23 : decode cX3_acknowledge 23 = .ok (.aaload, 1) := by decide +kernel
theorem dX3_acknowledge_24 : decode cX3_acknowledge 24 = .ok (.getfield 48, 3) := by decide +kernel
theorem dX3_acknowledge_27 : decode cX3_acknowledge 27 = .ok (.ifCond .eq 13, 3) := by decide +kernel
theorem dX3_acknowledge_30 : decode cX3_acknowledge 30 = .ok (.new 55, 3) := by decide +kernel
theorem dX3_acknowledge_33 : decode cX3_acknowledge 33 = .ok (.dup, 1) := by decide +kernel
theorem dX3_acknowledge_34 : decode cX3_acknowledge 34 = .ok (.ldc 74, 2) := by decide +kernel
theorem dX3_acknowledge_36 : decode cX3_acknowledge 36 = .ok (.invokespecial 59, 3) := by decide +kernel
theorem dX3_acknowledge_39 : decode cX3_acknowledge 39 = .ok (.athrow, 1) := by decide +kernel
theorem dX3_acknowledge_40 : decode cX3_acknowledge 40 = .ok (.aload_n 0, 1) := by decide +kernel
theorem dX3_acknowledge_41 : decode cX3_acknowledge 41 = .ok (.iload_n 1, 1) := by decide +kernel
theorem dX3_acknowledge_42 : decode cX3_acknowledge 42 = .ok (.invokevirtual 76, 3) := by decide +kernel
theorem dX3_acknowledge_45 : decode cX3_acknowledge 45 = .ok (.istore_n 2, 1) := by decide +kernel
theorem dX3_acknowledge_46 : decode cX3_acknowledge 46 = .ok (.aload_n 0, 1) := by decide +kernel
theorem dX3_acknowledge_47 : decode cX3_acknowledge 47 = .ok (.iload_n 2, 1) := by decide +kernel
theorem dX3_acknowledge_48 : decode cX3_acknowledge 48 = .ok (.invokevirtual 104, 3) := by decide +kernel
theorem dX3_acknowledge_51 : decode cX3_acknowledge 51 = .ok (.ifCond .ne 13, 3) := by decide +kernel
theorem dX3_acknowledge_54 : decode cX3_acknowledge 54 = .ok (.new 83, 3) := by decide +kernel
theorem dX3_acknowledge_57 : decode cX3_acknowledge 57 = .ok (.dup, 1) := by decide +kernel
theorem dX3_acknowledge_58 : decode cX3_acknowledge 58 = .ok (.ldc 107, 2) := by decide +kernel
theorem dX3_acknowledge_60 : decode cX3_acknowledge 60 = .ok (.invokespecial 87, 3) := by decide +kernel
theorem dX3_acknowledge_63 : decode cX3_acknowledge 63 = .ok (.athrow, 1) := by decide +kernel
theorem dX3_acknowledge_64 : decode cX3_acknowledge 64 = .ok (.aload_n 0, 1) := by decide +kernel
theorem dX3_acknowledge_65 : decode cX3_acknowledge 65 = .ok (.iload_n 2, 1) := by decide +kernel
theorem dX3_acknowledge_66 : decode cX3_acknowledge 66 = .ok (.invokevirtual 44, 3) := by decide +kernel
theorem dX3_acknowledge_69 : decode cX3_acknowledge 69 = .ok (.getfield 88, 3) := by decide +kernel
theorem dX3_acknowledge_72 : decode cX3_acknowledge 72 = .ok (.getfield 109, 3) := by decide +kernel
theorem dX3_acknowledge_75 : decode cX3_acknowledge 75 = .ok (.invokevirtual 98, 3) := by decide +kernel
theorem dX3_acknowledge_78 : decode cX3_acknowledge 78 = .ok (.istore_n 3, 1) := by decide +kernel
theorem dX3_acknowledge_79 : decode cX3_acknowledge 79 = .ok (.aload_n 0, 1) := by decide +kernel
theorem dX3_acknowledge_80 : decode cX3_acknowledge 80 = .ok (.iload_n 2, 1) := by decide +kernel
theorem dX3_acknowledge_81 : decode cX3_acknowledge 81 = .ok (.iload_n 3, 1) := by decide +kernel
theorem dX3_acknowledge_82 : decode cX3_acknowledge 82 = .ok (.invokevirtual 112, 3) := by decide +kernel
theorem dX3_acknowledge_85 : decode cX3_acknowledge 85 = .ok (.iload_n 3, 1) := by decide +kernel
theorem dX3_acknowledge_86 : decode cX3_acknowledge 86 = .ok (.ireturn, 1) := by decide +kernel
set_option maxRecDepth 20000 in
theorem ggX3_fail_X3_isNode : GoodIn wsX3_fail wsX3_isNode := goodIn_r _ [8, 3, 41, 42, 43, 44, 45, 46] (by decide +kernel) (by decide +kernel)
set_option maxRecDepth 20000 in
theorem gX3_fail_X3_isNode : GoodIn wsX3_fail (wsV RX3 69 RX3 yX3_isNode wsX3_isNode) := goodIn_app (goodIn_of _ (by decide +kernel)) ggX3_fail_X3_isNode
set_option maxRecDepth 20000 in
theorem ggX3_fail_X3_countStanding : GoodIn wsX3_fail wsX3_countStanding := goodIn_r _ [12, 3, 41, 42, 43, 44, 45, 46, 47, 48, 49, 50, 51] (by decide +kernel) (by decide +kernel)
set_option maxRecDepth 20000 in
theorem gX3_fail_X3_countStanding : GoodIn wsX3_fail (wsV RX3 115 RX3 yX3_countStanding wsX3_countStanding) := goodIn_app (goodIn_of _ (by decide +kernel)) ggX3_fail_X3_countStanding
set_option maxRecDepth 20000 in
theorem ggX3_fail_X3_positionOf : GoodIn wsX3_fail wsX3_positionOf := goodIn_r _ [16, 17, 18, 41, 42, 43, 44, 45, 46] (by decide +kernel) (by decide +kernel)
set_option maxRecDepth 20000 in
theorem gX3_fail_X3_positionOf : GoodIn wsX3_fail (wsV RX3 76 RX3 yX3_positionOf wsX3_positionOf) := goodIn_app (goodIn_of _ (by decide +kernel)) ggX3_fail_X3_positionOf
set_option maxRecDepth 20000 in
theorem ggX3_fail_X3_closeLinksAt : GoodIn wsX3_fail wsX3_closeLinksAt := goodIn_r _ [22, 23, 24, 25, 7, 26, 3, 18, 27, 28, 29, 30, 31, 32, 33, 34, 35, 36, 37, 38, 39, 40, 47, 48, 49, 50, 51, 41, 42, 43, 44, 45, 46, 52, 53, 54, 55, 56, 57] (by decide +kernel) (by decide +kernel)
set_option maxRecDepth 20000 in
theorem gX3_fail_X3_closeLinksAt : GoodIn wsX3_fail (wsV RX3 118 RX3 yX3_closeLinksAt wsX3_closeLinksAt) := goodIn_app (goodIn_of _ (by decide +kernel)) ggX3_fail_X3_closeLinksAt
theorem dX3_fail_0 : decode cX3_fail 0 = .ok (.aload_n 0, 1) := by decide +kernel
theorem dX3_fail_1 : decode cX3_fail 1 = .ok (.iload_n 1, 1) := by decide +kernel
theorem dX3_fail_2 : decode cX3_fail 2 = .ok (.invokevirtual 69, 3) := by decide +kernel
theorem dX3_fail_5 : decode cX3_fail 5 = .ok (.ifCond .ne 13, 3) := by decide +kernel
theorem dX3_fail_8 : decode cX3_fail 8 = .ok (.new 37, 3) := by decide +kernel
theorem dX3_fail_11 : decode cX3_fail 11 = .ok (.dup, 1) := by decide +kernel
theorem dX3_fail_12 : decode cX3_fail 12 = .ok (.ldc 72, 2) := by decide +kernel
theorem dX3_fail_14 : decode cX3_fail 14 = .ok (.invokespecial 41, 3) := by decide +kernel
theorem dX3_fail_17 : decode cX3_fail 17 = .ok (.athrow, 1) := by decide +kernel
theorem dX3_fail_18 : decode cX3_fail 18 = .ok (.aload_n 0, 1) := by decide +kernel
theorem dX3_fail_19 : decode cX3_fail 19 = .ok (.getfield 22, 3) := by decide +kernel
theorem dX3_fail_22 : decode cX3_fail 22 = .ok (.iload_n 1, 1) := by decide +kernel
theorem dX3_fail_23 : decode cX3_fail 23 = .ok (.aaload, 1) := by decide +kernel
theorem dX3_fail_24 : decode cX3_fail 24 = .ok (.getfield 48, 3) := by decide +kernel
theorem dX3_fail_27 : decode cX3_fail 27 = .ok (.ifCond .ne 11, 3) := by decide +kernel
theorem dX3_fail_30 : decode cX3_fail 30 = .ok (.aload_n 0, 1) := by decide +kernel
theorem dX3_fail_31 : decode cX3_fail 31 = .ok (.invokevirtual 115, 3) := by decide +kernel
theorem dX3_fail_34 : decode cX3_fail 34 = .ok (.iconst 1, 1) := by decide +kernel
theorem dX3_fail_35 : decode cX3_fail 35 = .ok (.if_icmp .gt 5, 3) := by decide +kernel
theorem dX3_fail_38 : decode cX3_fail 38 = .ok (.iconst 0, 1) := by decide +kernel
theorem dX3_fail_39 : decode cX3_fail 39 = .ok (.ireturn, 1) := by decide +kernel
theorem dX3_fail_40 : decode cX3_fail 40 = .ok (.aload_n 0, 1) := by decide +kernel
theorem dX3_fail_41 : decode cX3_fail 41 = .ok (.getfield 22, 3) := by decide +kernel
theorem dX3_fail_44 : decode cX3_fail 44 = .ok (.iload_n 1, 1) := by decide +kernel
theorem dX3_fail_45 : decode cX3_fail 45 = .ok (.aaload, 1) := by decide +kernel
theorem dX3_fail_46 : decode cX3_fail 46 = .ok (.iconst 1, 1) := by decide +kernel
theorem dX3_fail_47 : decode cX3_fail 47 = .ok (.putfield 48, 3) := by decide +kernel
theorem dX3_fail_50 : decode cX3_fail 50 = .ok (.aload_n 0, 1) := by decide +kernel
theorem dX3_fail_51 : decode cX3_fail 51 = .ok (.aload_n 0, 1) := by decide +kernel
theorem dX3_fail_52 : decode cX3_fail 52 = .ok (.iload_n 1, 1) := by decide +kernel
theorem dX3_fail_53 : decode cX3_fail 53 = .ok (.invokevirtual 76, 3) := by decide +kernel
theorem dX3_fail_56 : decode cX3_fail 56 = .ok (.invokevirtual 118, 3) := by decide +kernel
theorem dX3_fail_59 : decode cX3_fail 59 = .ok (.iconst 1, 1) := by decide +kernel
theorem dX3_fail_60 : decode cX3_fail 60 = .ok (.ireturn, 1) := by decide +kernel
set_option maxRecDepth 20000 in
theorem ggX3_repair_X3_tail : GoodIn wsX3_repair wsX3_tail := goodIn_r _ [6, 7, 1, 45, 46, 47, 48, 49, 50] (by decide +kernel) (by decide +kernel)
set_option maxRecDepth 20000 in
theorem gX3_repair_X3_tail : GoodIn wsX3_repair (wsV RX3 122 RX3 yX3_tail wsX3_tail) := goodIn_app (goodIn_of _ (by decide +kernel)) ggX3_repair_X3_tail
set_option maxRecDepth 20000 in
theorem ggX3_repair_X3_takeOutFailed : GoodIn wsX3_repair wsX3_takeOutFailed := goodIn_r _ [11, 1, 7, 12, 13, 14, 5, 15, 16, 45, 46, 47, 48, 49, 50, 51, 52, 53, 54, 55] (by decide +kernel) (by decide +kernel)
set_option maxRecDepth 20000 in
theorem gX3_repair_X3_takeOutFailed : GoodIn wsX3_repair (wsV RX3 125 RX3 yX3_takeOutFailed wsX3_takeOutFailed) := goodIn_app (goodIn_of _ (by decide +kernel)) ggX3_repair_X3_takeOutFailed
set_option maxRecDepth 20000 in
theorem ggX3_repair_X3_acknowledgeAllSentAtTail : GoodIn wsX3_repair wsX3_acknowledgeAllSentAtTail := goodIn_r _ [20, 1, 12, 13, 14, 5, 15, 16, 7, 21, 22, 23, 24, 25, 26, 27, 28, 29, 30, 31, 32, 33, 34, 35, 36, 37, 38, 39, 40, 41, 42, 43, 44, 45, 46, 47, 48, 49, 50, 51, 52, 53, 54, 55, 56, 57, 58, 59, 60, 61] (by decide +kernel) (by decide +kernel)
set_option maxRecDepth 20000 in
theorem gX3_repair_X3_acknowledgeAllSentAtTail : GoodIn wsX3_repair (wsV RX3 128 RX3 yX3_acknowledgeAllSentAtTail wsX3_acknowledgeAllSentAtTail) := goodIn_app (goodIn_of _ (by decide +kernel)) ggX3_repair_X3_acknowledgeAllSentAtTail
theorem dX3_repair_0 : decode cX3_repair 0 = .ok (.aload_n 0, 1) := by decide +kernel
theorem dX3_repair_1 : decode cX3_repair 1 = .ok (.getfield 29, 3) := by decide +kernel
theorem dX3_repair_4 : decode cX3_repair 4 = .ok (.istore_n 1, 1) := by decide +kernel
theorem dX3_repair_5 : decode cX3_repair 5 = .ok (.aload_n 0, 1) := by decide +kernel
theorem dX3_repair_6 : decode cX3_repair 6 = .ok (.invokevirtual 122, 3) := by decide +kernel
theorem dX3_repair_9 : decode cX3_repair 9 = .ok (.istore_n 2, 1) := by decide +kernel
theorem dX3_repair_10 : decode cX3_repair 10 = .ok (.aload_n 0, 1) := by decide +kernel
theorem dX3_repair_11 : decode cX3_repair 11 = .ok (.invokevirtual 125, 3) := by decide +kernel
theorem dX3_repair_14 : decode cX3_repair 14 = .ok (.aload_n 0, 1) := by decide +kernel
theorem dX3_repair_15 : decode cX3_repair 15 = .ok (.invokevirtual 122, 3) := by decide +kernel
theorem dX3_repair_18 : decode cX3_repair 18 = .ok (.iload_n 2, 1) := by decide +kernel
theorem dX3_repair_19 : decode cX3_repair 19 = .ok (.if_icmp .eq 7, 3) := by decide +kernel
theorem dX3_repair_22 : decode cX3_repair 22 = .ok (.aload_n 0, 1) := by decide +kernel
theorem dX3_repair_23 : decode cX3_repair 23 = .ok (.invokevirtual 128, 3) := by decide +kernel
theorem dX3_repair_26 : decode cX3_repair 26 = .ok (.iload_n 1, 1) := by decide +kernel
theorem dX3_repair_27 : decode cX3_repair 27 = .ok (.aload_n 0, 1) := by decide +kernel
theorem dX3_repair_28 : decode cX3_repair 28 = .ok (.getfield 29, 3) := by decide +kernel
theorem dX3_repair_31 : decode cX3_repair 31 = .ok (.isub, 1) := by decide +kernel
theorem dX3_repair_32 : decode cX3_repair 32 = .ok (.ireturn, 1) := by decide +kernel
set_option maxRecDepth 20000 in
theorem ggX3_resync_X3_isNode : GoodIn wsX3_resync wsX3_isNode := goodIn_r _ [13, 14, 64, 65, 66, 67, 68, 69] (by decide +kernel) (by decide +kernel)
set_option maxRecDepth 20000 in
theorem gX3_resync_X3_isNode : GoodIn wsX3_resync (wsV RX3 69 RX3 yX3_isNode wsX3_isNode) := goodIn_app (goodIn_of _ (by decide +kernel)) ggX3_resync_X3_isNode
set_option maxRecDepth 20000 in
theorem ggX3_resync_X3_positionOf : GoodIn wsX3_resync wsX3_positionOf := goodIn_r _ [18, 19, 20, 64, 65, 66, 67, 68, 69] (by decide +kernel) (by decide +kernel)
set_option maxRecDepth 20000 in
theorem gX3_resync_X3_positionOf : GoodIn wsX3_resync (wsV RX3 76 RX3 yX3_positionOf wsX3_positionOf) := goodIn_app (goodIn_of _ (by decide +kernel)) ggX3_resync_X3_positionOf
set_option maxRecDepth 20000 in
theorem ggX3_resync_X3_canResyncAt : GoodIn wsX3_resync wsX3_canResyncAt := goodIn_r _ [24, 25, 26, 27, 12, 28, 19, 29, 30, 31, 32, 14, 20, 53, 54, 55, 56, 57, 58, 59, 60, 64, 65, 66, 67, 68, 69] (by decide +kernel) (by decide +kernel)
set_option maxRecDepth 20000 in
theorem gX3_resync_X3_canResyncAt : GoodIn wsX3_resync (wsV RX3 131 RX3 yX3_canResyncAt wsX3_canResyncAt) := goodIn_app (goodIn_of _ (by decide +kernel)) ggX3_resync_X3_canResyncAt
set_option maxRecDepth 20000 in
theorem ggX3_resync_X3_nodeAt : GoodIn wsX3_resync wsX3_nodeAt := goodIn_r _ [32, 14, 20, 64, 65, 66, 67, 68, 69] (by decide +kernel) (by decide +kernel)
set_option maxRecDepth 20000 in
theorem gX3_resync_X3_nodeAt : GoodIn wsX3_resync (wsV RX3 44 RX3 yX3_nodeAt wsX3_nodeAt) := goodIn_app (goodIn_of _ (by decide +kernel)) ggX3_resync_X3_nodeAt
set_option maxRecDepth 20000 in
theorem ggX3_resync_X0_putUpdate : GoodIn wsX3_resync wsX0_putUpdate := goodIn_r _ [37, 38, 39, 40, 41, 42, 43, 44, 45, 46, 47, 58, 59, 60, 61, 62, 63] (by decide +kernel) (by decide +kernel)
set_option maxRecDepth 20000 in
theorem gX3_resync_X0_putUpdate : GoodIn wsX3_resync (wsV RX3 148 RX0 yX0_putUpdate wsX0_putUpdate) := goodIn_app (goodIn_of _ (by decide +kernel)) ggX3_resync_X0_putUpdate
set_option maxRecDepth 20000 in
theorem ggX3_resync_X0_putAcknowledgement : GoodIn wsX3_resync wsX0_putAcknowledgement := goodIn_r _ [51, 38, 52, 40, 41, 42, 43, 44, 45, 46, 47, 58, 59, 60, 61, 62, 63] (by decide +kernel) (by decide +kernel)
set_option maxRecDepth 20000 in
theorem gX3_resync_X0_putAcknowledgement : GoodIn wsX3_resync (wsV RX3 151 RX0 yX0_putAcknowledgement wsX0_putAcknowledgement) := goodIn_app (goodIn_of _ (by decide +kernel)) ggX3_resync_X0_putAcknowledgement
theorem dX3_resync_0 : decode cX3_resync 0 = .ok (.aload_n 0, 1) := by decide +kernel
theorem dX3_resync_1 : decode cX3_resync 1 = .ok (.iload_n 1, 1) := by decide +kernel
theorem dX3_resync_2 : decode cX3_resync 2 = .ok (.invokevirtual 69, 3) := by decide +kernel
theorem dX3_resync_5 : decode cX3_resync 5 = .ok (.ifCond .ne 13, 3) := by decide +kernel
theorem dX3_resync_8 : decode cX3_resync 8 = .ok (.new 37, 3) := by decide +kernel
theorem dX3_resync_11 : decode cX3_resync 11 = .ok (.dup, 1) := by decide +kernel
theorem dX3_resync_12 : decode cX3_resync 12 = .ok (.ldc 72, 2) := by decide +kernel
theorem dX3_resync_14 : decode cX3_resync 14 = .ok (.invokespecial 41, 3) := by decide +kernel
theorem dX3_resync_17 : decode cX3_resync 17 = .ok (.athrow, 1) := by decide +kernel
theorem dX3_resync_18 : decode cX3_resync 18 = .ok (.aload_n 0, 1) := by decide +kernel
theorem dX3_resync_19 : decode cX3_resync 19 = .ok (.iload_n 1, 1) := by decide +kernel
theorem dX3_resync_20 : decode cX3_resync 20 = .ok (.invokevirtual 76, 3) := by decide +kernel
theorem dX3_resync_23 : decode cX3_resync 23 = .ok (.istore_n 2, 1) := by decide +kernel
theorem dX3_resync_24 : decode cX3_resync 24 = .ok (.aload_n 0, 1) := by decide +kernel
theorem dX3_resync_25 : decode cX3_resync 25 = .ok (.iload_n 2, 1) := by decide +kernel
theorem dX3_resync_26 : decode cX3_resync 26 = .ok (.invokevirtual 131, 3) := by decide +kernel
theorem dX3_resync_29 : decode cX3_resync 29 = .ok (.ifCond .ne 13, 3) := by decide +kernel
theorem dX3_resync_32 : decode cX3_resync 32 = .ok (.new 55, 3) := by decide +kernel
theorem dX3_resync_35 : decode cX3_resync 35 = .ok (.dup, 1) := by decide +kernel
theorem dX3_resync_36 : decode cX3_resync 36 = .ok (.ldc 134, 2) := by decide +kernel
theorem dX3_resync_38 : decode cX3_resync 38 = .ok (.invokespecial 59, 3) := by decide +kernel
theorem dX3_resync_41 : decode cX3_resync 41 = .ok (.athrow, 1) := by decide +kernel
theorem dX3_resync_42 : decode cX3_resync 42 = .ok (.aload_n 0, 1) := by decide +kernel
theorem dX3_resync_43 : decode cX3_resync 43 = .ok (.iload_n 2, 1) := by decide +kernel
theorem dX3_resync_44 : decode cX3_resync 44 = .ok (.invokevirtual 44, 3) := by decide +kernel
theorem dX3_resync_47 : decode cX3_resync 47 = .ok (.astore_n 3, 1) := by decide +kernel
theorem dX3_resync_48 : decode cX3_resync 48 = .ok (.aload_n 0, 1) := by decide +kernel
theorem dX3_resync_49 : decode cX3_resync 49 = .ok (.iload_n 2, 1) := by decide +kernel
theorem dX3_resync_50 : decode cX3_resync 50 = .ok (.iconst 1, 1) := by decide +kernel
theorem dX3_resync_51 : decode cX3_resync 51 = .ok (.iadd, 1) := by decide +kernel
theorem dX3_resync_52 : decode cX3_resync 52 = .ok (.invokevirtual 44, 3) := by decide +kernel
theorem dX3_resync_55 : decode cX3_resync 55 = .ok (.astore 4, 2) := by decide +kernel
theorem dX3_resync_57 : decode cX3_resync 57 = .ok (.aload_n 3, 1) := by decide +kernel
theorem dX3_resync_58 : decode cX3_resync 58 = .ok (.getfield 88, 3) := by decide +kernel
theorem dX3_resync_61 : decode cX3_resync 61 = .ok (.iconst 1, 1) := by decide +kernel
theorem dX3_resync_62 : decode cX3_resync 62 = .ok (.putfield 136, 3) := by decide +kernel
theorem dX3_resync_65 : decode cX3_resync 65 = .ok (.aload 4, 2) := by decide +kernel
theorem dX3_resync_67 : decode cX3_resync 67 = .ok (.getfield 52, 3) := by decide +kernel
theorem dX3_resync_70 : decode cX3_resync 70 = .ok (.aload_n 3, 1) := by decide +kernel
theorem dX3_resync_71 : decode cX3_resync 71 = .ok (.getfield 139, 3) := by decide +kernel
theorem dX3_resync_74 : decode cX3_resync 74 = .ok (.invokestatic 142, 3) := by decide +kernel
theorem dX3_resync_77 : decode cX3_resync 77 = .ok (.istore 5, 2) := by decide +kernel
theorem dX3_resync_79 : decode cX3_resync 79 = .ok (.iload 5, 2) := by decide +kernel
theorem dX3_resync_81 : decode cX3_resync 81 = .ok (.iconst 1, 1) := by decide +kernel
theorem dX3_resync_82 : decode cX3_resync 82 = .ok (.iadd, 1) := by decide +kernel
theorem dX3_resync_83 : decode cX3_resync 83 = .ok (.istore 6, 2) := by decide +kernel
theorem dX3_resync_85 : decode cX3_resync 85 = .ok (.iload 6, 2) := by decide +kernel
theorem dX3_resync_87 : decode cX3_resync 87 = .ok (.aload_n 3, 1) := by decide +kernel
theorem dX3_resync_88 : decode cX3_resync 88 = .ok (.getfield 52, 3) := by decide +kernel
theorem dX3_resync_91 : decode cX3_resync 91 = .ok (.if_icmp .gt 18, 3) := by decide +kernel
theorem dX3_resync_94 : decode cX3_resync 94 = .ok (.aload_n 3, 1) := by decide +kernel
theorem dX3_resync_95 : decode cX3_resync 95 = .ok (.getfield 88, 3) := by decide +kernel
theorem dX3_resync_98 : decode cX3_resync 98 = .ok (.iload 6, 2) := by decide +kernel
theorem dX3_resync_100 : decode cX3_resync 100 = .ok (.invokevirtual 148, 3) := by decide +kernel
theorem dX3_resync_103 : decode cX3_resync 103 = .ok (.iinc 6 1, 3) := by decide +kernel
theorem dX3_resync_106 : decode cX3_resync 106 = .ok (.goto (-21), 3) := by decide +kernel
theorem dX3_resync_109 : decode cX3_resync 109 = .ok (.aload_n 3, 1) := by decide +kernel
theorem dX3_resync_110 : decode cX3_resync 110 = .ok (.getfield 139, 3) := by decide +kernel
theorem dX3_resync_113 : decode cX3_resync 113 = .ok (.iconst 1, 1) := by decide +kernel
theorem dX3_resync_114 : decode cX3_resync 114 = .ok (.iadd, 1) := by decide +kernel
theorem dX3_resync_115 : decode cX3_resync 115 = .ok (.istore 6, 2) := by decide +kernel
theorem dX3_resync_117 : decode cX3_resync 117 = .ok (.iload 6, 2) := by decide +kernel
theorem dX3_resync_119 : decode cX3_resync 119 = .ok (.aload 4, 2) := by decide +kernel
theorem dX3_resync_121 : decode cX3_resync 121 = .ok (.getfield 139, 3) := by decide +kernel
theorem dX3_resync_124 : decode cX3_resync 124 = .ok (.if_icmp .gt 18, 3) := by decide +kernel
theorem dX3_resync_127 : decode cX3_resync 127 = .ok (.aload_n 3, 1) := by decide +kernel
theorem dX3_resync_128 : decode cX3_resync 128 = .ok (.getfield 88, 3) := by decide +kernel
theorem dX3_resync_131 : decode cX3_resync 131 = .ok (.iload 6, 2) := by decide +kernel
theorem dX3_resync_133 : decode cX3_resync 133 = .ok (.invokevirtual 151, 3) := by decide +kernel
theorem dX3_resync_136 : decode cX3_resync 136 = .ok (.iinc 6 1, 3) := by decide +kernel
theorem dX3_resync_139 : decode cX3_resync 139 = .ok (.goto (-22), 3) := by decide +kernel
theorem dX3_resync_142 : decode cX3_resync 142 = .ok (.aload_n 3, 1) := by decide +kernel
theorem dX3_resync_143 : decode cX3_resync 143 = .ok (.getfield 88, 3) := by decide +kernel
theorem dX3_resync_146 : decode cX3_resync 146 = .ok (.getfield 92, 3) := by decide +kernel
theorem dX3_resync_149 : decode cX3_resync 149 = .ok (.getfield 154, 3) := by decide +kernel
theorem dX3_resync_152 : decode cX3_resync 152 = .ok (.ireturn, 1) := by decide +kernel
theorem dX3_replied_0 : decode cX3_replied 0 = .ok (.iload_n 1, 1) := by decide +kernel
theorem dX3_replied_1 : decode cX3_replied 1 = .ok (.iconst 1, 1) := by decide +kernel
theorem dX3_replied_2 : decode cX3_replied 2 = .ok (.if_icmp .lt 15, 3) := by decide +kernel
theorem dX3_replied_5 : decode cX3_replied 5 = .ok (.iload_n 1, 1) := by decide +kernel
theorem dX3_replied_6 : decode cX3_replied 6 = .ok (.aload_n 0, 1) := by decide +kernel
theorem dX3_replied_7 : decode cX3_replied 7 = .ok (.getfield 16, 3) := by decide +kernel
theorem dX3_replied_10 : decode cX3_replied 10 = .ok (.if_icmp .gt 7, 3) := by decide +kernel
theorem dX3_replied_13 : decode cX3_replied 13 = .ok (.iconst 1, 1) := by decide +kernel
theorem dX3_replied_14 : decode cX3_replied 14 = .ok (.goto 4, 3) := by decide +kernel
theorem dX3_replied_17 : decode cX3_replied 17 = .ok (.iconst 0, 1) := by decide +kernel
theorem dX3_replied_18 : decode cX3_replied 18 = .ok (.ireturn, 1) := by decide +kernel
theorem dX3_head_0 : decode cX3_head 0 = .ok (.aload_n 0, 1) := by decide +kernel
theorem dX3_head_1 : decode cX3_head 1 = .ok (.getfield 26, 3) := by decide +kernel
theorem dX3_head_4 : decode cX3_head 4 = .ok (.iconst 0, 1) := by decide +kernel
theorem dX3_head_5 : decode cX3_head 5 = .ok (.iaload, 1) := by decide +kernel
theorem dX3_head_6 : decode cX3_head 6 = .ok (.ireturn, 1) := by decide +kernel
theorem dX3_tail_0 : decode cX3_tail 0 = .ok (.aload_n 0, 1) := by decide +kernel
theorem dX3_tail_1 : decode cX3_tail 1 = .ok (.getfield 26, 3) := by decide +kernel
theorem dX3_tail_4 : decode cX3_tail 4 = .ok (.aload_n 0, 1) := by decide +kernel
theorem dX3_tail_5 : decode cX3_tail 5 = .ok (.getfield 29, 3) := by decide +kernel
theorem dX3_tail_8 : decode cX3_tail 8 = .ok (.iconst 1, 1) := by decide +kernel
theorem dX3_tail_9 : decode cX3_tail 9 = .ok (.isub, 1) := by decide +kernel
theorem dX3_tail_10 : decode cX3_tail 10 = .ok (.iaload, 1) := by decide +kernel
theorem dX3_tail_11 : decode cX3_tail 11 = .ok (.ireturn, 1) := by decide +kernel
set_option maxRecDepth 20000 in
theorem ggX3_valueAt_X3_isNode : GoodIn wsX3_valueAt wsX3_isNode := goodIn_r _ [8, 3, 12, 13, 14, 15, 16, 17] (by decide +kernel) (by decide +kernel)
set_option maxRecDepth 20000 in
theorem gX3_valueAt_X3_isNode : GoodIn wsX3_valueAt (wsV RX3 69 RX3 yX3_isNode wsX3_isNode) := goodIn_app (goodIn_of _ (by decide +kernel)) ggX3_valueAt_X3_isNode
set_option maxRecDepth 20000 in
theorem ggX3_valueAt_X3_isKey : GoodIn wsX3_valueAt wsX3_isKey := goodIn_r _ [11] (by decide +kernel) (by decide +kernel)
set_option maxRecDepth 20000 in
theorem gX3_valueAt_X3_isKey : GoodIn wsX3_valueAt (va_wsS RX3 33 yX3_isKey wsX3_isKey) := goodIn_app (goodIn_of _ (by decide +kernel)) ggX3_valueAt_X3_isKey
theorem dX3_valueAt_0 : decode cX3_valueAt 0 = .ok (.aload_n 0, 1) := by decide +kernel
theorem dX3_valueAt_1 : decode cX3_valueAt 1 = .ok (.iload_n 1, 1) := by decide +kernel
theorem dX3_valueAt_2 : decode cX3_valueAt 2 = .ok (.invokevirtual 69, 3) := by decide +kernel
theorem dX3_valueAt_5 : decode cX3_valueAt 5 = .ok (.ifCond .eq 10, 3) := by decide +kernel
theorem dX3_valueAt_8 : decode cX3_valueAt 8 = .ok (.iload_n 2, 1) := by decide +kernel
theorem dX3_valueAt_9 : decode cX3_valueAt 9 = .ok (.invokestatic 33, 3) := by decide +kernel
theorem dX3_valueAt_12 : decode cX3_valueAt 12 = .ok (.ifCond .ne 13, 3) := by decide +kernel
theorem dX3_valueAt_15 : decode cX3_valueAt 15 = .ok (.new 37, 3) := by decide +kernel
theorem dX3_valueAt_18 : decode cX3_valueAt 18 = .ok (.dup, 1) := by decide +kernel
theorem dX3_valueAt_19 : decode cX3_valueAt 19 = .ok (.ldc 157, 2) := by decide +kernel
theorem dX3_valueAt_21 : decode cX3_valueAt 21 = .ok (.invokespecial 41, 3) := by decide +kernel
theorem dX3_valueAt_24 : decode cX3_valueAt 24 = .ok (.athrow, 1) := by decide +kernel
theorem dX3_valueAt_25 : decode cX3_valueAt 25 = .ok (.aload_n 0, 1) := by decide +kernel
theorem dX3_valueAt_26 : decode cX3_valueAt 26 = .ok (.getfield 22, 3) := by decide +kernel
theorem dX3_valueAt_29 : decode cX3_valueAt 29 = .ok (.iload_n 1, 1) := by decide +kernel
theorem dX3_valueAt_30 : decode cX3_valueAt 30 = .ok (.aaload, 1) := by decide +kernel
theorem dX3_valueAt_31 : decode cX3_valueAt 31 = .ok (.getfield 66, 3) := by decide +kernel
theorem dX3_valueAt_34 : decode cX3_valueAt 34 = .ok (.iload_n 2, 1) := by decide +kernel
theorem dX3_valueAt_35 : decode cX3_valueAt 35 = .ok (.iaload, 1) := by decide +kernel
theorem dX3_valueAt_36 : decode cX3_valueAt 36 = .ok (.ireturn, 1) := by decide +kernel
set_option maxRecDepth 20000 in
theorem ggX3_history_X3_isNode : GoodIn wsX3_history wsX3_isNode := goodIn_r _ [8, 3, 9, 10, 11, 12, 13, 14] (by decide +kernel) (by decide +kernel)
set_option maxRecDepth 20000 in
theorem gX3_history_X3_isNode : GoodIn wsX3_history (wsV RX3 69 RX3 yX3_isNode wsX3_isNode) := goodIn_app (goodIn_of _ (by decide +kernel)) ggX3_history_X3_isNode
theorem dX3_history_0 : decode cX3_history 0 = .ok (.aload_n 0, 1) := by decide +kernel
theorem dX3_history_1 : decode cX3_history 1 = .ok (.iload_n 1, 1) := by decide +kernel
theorem dX3_history_2 : decode cX3_history 2 = .ok (.invokevirtual 69, 3) := by decide +kernel
theorem dX3_history_5 : decode cX3_history 5 = .ok (.ifCond .ne 13, 3) := by decide +kernel
theorem dX3_history_8 : decode cX3_history 8 = .ok (.new 37, 3) := by decide +kernel
theorem dX3_history_11 : decode cX3_history 11 = .ok (.dup, 1) := by decide +kernel
theorem dX3_history_12 : decode cX3_history 12 = .ok (.ldc 72, 2) := by decide +kernel
theorem dX3_history_14 : decode cX3_history 14 = .ok (.invokespecial 41, 3) := by decide +kernel
theorem dX3_history_17 : decode cX3_history 17 = .ok (.athrow, 1) := by decide +kernel
theorem dX3_history_18 : decode cX3_history 18 = .ok (.aload_n 0, 1) := by decide +kernel
theorem dX3_history_19 : decode cX3_history 19 = .ok (.getfield 22, 3) := by decide +kernel
theorem dX3_history_22 : decode cX3_history 22 = .ok (.iload_n 1, 1) := by decide +kernel
theorem dX3_history_23 : decode cX3_history 23 = .ok (.aaload, 1) := by decide +kernel
theorem dX3_history_24 : decode cX3_history 24 = .ok (.getfield 52, 3) := by decide +kernel
theorem dX3_history_27 : decode cX3_history 27 = .ok (.ireturn, 1) := by decide +kernel
set_option maxRecDepth 20000 in
theorem ggX3_sent_X3_isNode : GoodIn wsX3_sent wsX3_isNode := goodIn_r _ [8, 3, 9, 10, 11, 12, 13, 14] (by decide +kernel) (by decide +kernel)
set_option maxRecDepth 20000 in
theorem gX3_sent_X3_isNode : GoodIn wsX3_sent (wsV RX3 69 RX3 yX3_isNode wsX3_isNode) := goodIn_app (goodIn_of _ (by decide +kernel)) ggX3_sent_X3_isNode
theorem dX3_sent_0 : decode cX3_sent 0 = .ok (.aload_n 0, 1) := by decide +kernel
theorem dX3_sent_1 : decode cX3_sent 1 = .ok (.iload_n 1, 1) := by decide +kernel
theorem dX3_sent_2 : decode cX3_sent 2 = .ok (.invokevirtual 69, 3) := by decide +kernel
theorem dX3_sent_5 : decode cX3_sent 5 = .ok (.ifCond .ne 13, 3) := by decide +kernel
theorem dX3_sent_8 : decode cX3_sent 8 = .ok (.new 37, 3) := by decide +kernel
theorem dX3_sent_11 : decode cX3_sent 11 = .ok (.dup, 1) := by decide +kernel
theorem dX3_sent_12 : decode cX3_sent 12 = .ok (.ldc 72, 2) := by decide +kernel
theorem dX3_sent_14 : decode cX3_sent 14 = .ok (.invokespecial 41, 3) := by decide +kernel
theorem dX3_sent_17 : decode cX3_sent 17 = .ok (.athrow, 1) := by decide +kernel
theorem dX3_sent_18 : decode cX3_sent 18 = .ok (.aload_n 0, 1) := by decide +kernel
theorem dX3_sent_19 : decode cX3_sent 19 = .ok (.getfield 22, 3) := by decide +kernel
theorem dX3_sent_22 : decode cX3_sent 22 = .ok (.iload_n 1, 1) := by decide +kernel
theorem dX3_sent_23 : decode cX3_sent 23 = .ok (.aaload, 1) := by decide +kernel
theorem dX3_sent_24 : decode cX3_sent 24 = .ok (.getfield 52, 3) := by decide +kernel
theorem dX3_sent_27 : decode cX3_sent 27 = .ok (.aload_n 0, 1) := by decide +kernel
theorem dX3_sent_28 : decode cX3_sent 28 = .ok (.getfield 22, 3) := by decide +kernel
theorem dX3_sent_31 : decode cX3_sent 31 = .ok (.iload_n 1, 1) := by decide +kernel
theorem dX3_sent_32 : decode cX3_sent 32 = .ok (.aaload, 1) := by decide +kernel
theorem dX3_sent_33 : decode cX3_sent 33 = .ok (.getfield 139, 3) := by decide +kernel
theorem dX3_sent_36 : decode cX3_sent 36 = .ok (.isub, 1) := by decide +kernel
theorem dX3_sent_37 : decode cX3_sent 37 = .ok (.ireturn, 1) := by decide +kernel
set_option maxRecDepth 20000 in
theorem ggX3_waiting_X3_isNode : GoodIn wsX3_waiting wsX3_isNode := goodIn_r _ [7, 8, 31, 32, 33, 34, 35, 36] (by decide +kernel) (by decide +kernel)
set_option maxRecDepth 20000 in
theorem gX3_waiting_X3_isNode : GoodIn wsX3_waiting (wsV RX3 69 RX3 yX3_isNode wsX3_isNode) := goodIn_app (goodIn_of _ (by decide +kernel)) ggX3_waiting_X3_isNode
set_option maxRecDepth 20000 in
theorem ggX3_waiting_X3_positionOf : GoodIn wsX3_waiting wsX3_positionOf := goodIn_r _ [12, 13, 14, 31, 32, 33, 34, 35, 36] (by decide +kernel) (by decide +kernel)
set_option maxRecDepth 20000 in
theorem gX3_waiting_X3_positionOf : GoodIn wsX3_waiting (wsV RX3 76 RX3 yX3_positionOf wsX3_positionOf) := goodIn_app (goodIn_of _ (by decide +kernel)) ggX3_waiting_X3_positionOf
set_option maxRecDepth 20000 in
theorem ggX3_waiting_X3_updatesTowards : GoodIn wsX3_waiting wsX3_updatesTowards := goodIn_r _ [18, 19, 20, 21, 6, 22, 8, 14, 37, 38, 39, 40, 41, 42, 43, 44, 45, 46, 47, 31, 32, 33, 34, 35, 36] (by decide +kernel) (by decide +kernel)
set_option maxRecDepth 20000 in
theorem gX3_waiting_X3_updatesTowards : GoodIn wsX3_waiting (wsV RX3 80 RX3 yX3_updatesTowards wsX3_updatesTowards) := goodIn_app (goodIn_of _ (by decide +kernel)) ggX3_waiting_X3_updatesTowards
set_option maxRecDepth 20000 in
theorem ggX3_waiting_X3_acknowledgementsTowards : GoodIn wsX3_waiting wsX3_acknowledgementsTowards := goodIn_r _ [26, 27, 28, 29, 6, 30, 13, 19, 20, 21, 22, 8, 14, 37, 38, 39, 40, 41, 42, 43, 44, 45, 46, 47, 31, 32, 33, 34, 35, 36] (by decide +kernel) (by decide +kernel)
set_option maxRecDepth 20000 in
theorem gX3_waiting_X3_acknowledgementsTowards : GoodIn wsX3_waiting (wsV RX3 104 RX3 yX3_acknowledgementsTowards wsX3_acknowledgementsTowards) := goodIn_app (goodIn_of _ (by decide +kernel)) ggX3_waiting_X3_acknowledgementsTowards
theorem dX3_waiting_0 : decode cX3_waiting 0 = .ok (.aload_n 0, 1) := by decide +kernel
theorem dX3_waiting_1 : decode cX3_waiting 1 = .ok (.iload_n 1, 1) := by decide +kernel
theorem dX3_waiting_2 : decode cX3_waiting 2 = .ok (.invokevirtual 69, 3) := by decide +kernel
theorem dX3_waiting_5 : decode cX3_waiting 5 = .ok (.ifCond .ne 13, 3) := by decide +kernel
theorem dX3_waiting_8 : decode cX3_waiting 8 = .ok (.new 37, 3) := by decide +kernel
theorem dX3_waiting_11 : decode cX3_waiting 11 = .ok (.dup, 1) := by decide +kernel
theorem dX3_waiting_12 : decode cX3_waiting 12 = .ok (.ldc 72, 2) := by decide +kernel
theorem dX3_waiting_14 : decode cX3_waiting 14 = .ok (.invokespecial 41, 3) := by decide +kernel
theorem dX3_waiting_17 : decode cX3_waiting 17 = .ok (.athrow, 1) := by decide +kernel
theorem dX3_waiting_18 : decode cX3_waiting 18 = .ok (.aload_n 0, 1) := by decide +kernel
theorem dX3_waiting_19 : decode cX3_waiting 19 = .ok (.iload_n 1, 1) := by decide +kernel
theorem dX3_waiting_20 : decode cX3_waiting 20 = .ok (.invokevirtual 76, 3) := by decide +kernel
theorem dX3_waiting_23 : decode cX3_waiting 23 = .ok (.istore_n 2, 1) := by decide +kernel
theorem dX3_waiting_24 : decode cX3_waiting 24 = .ok (.aload_n 0, 1) := by decide +kernel
theorem dX3_waiting_25 : decode cX3_waiting 25 = .ok (.iload_n 2, 1) := by decide +kernel
theorem dX3_waiting_26 : decode cX3_waiting 26 = .ok (.invokevirtual 80, 3) := by decide +kernel
theorem dX3_waiting_29 : decode cX3_waiting 29 = .ok (.bipush 100, 2) := by decide +kernel
theorem dX3_waiting_31 : decode cX3_waiting 31 = .ok (.aload_n 0, 1) := by decide +kernel
theorem dX3_waiting_32 : decode cX3_waiting 32 = .ok (.iload_n 2, 1) := by decide +kernel
theorem dX3_waiting_33 : decode cX3_waiting 33 = .ok (.invokevirtual 104, 3) := by decide +kernel
theorem dX3_waiting_36 : decode cX3_waiting 36 = .ok (.imul, 1) := by decide +kernel
theorem dX3_waiting_37 : decode cX3_waiting 37 = .ok (.iadd, 1) := by decide +kernel
theorem dX3_waiting_38 : decode cX3_waiting 38 = .ok (.ireturn, 1) := by decide +kernel
set_option maxRecDepth 20000 in
theorem ggX3_lag_X3_nodeAt : GoodIn wsX3_lag wsX3_nodeAt := goodIn_r _ [6, 7, 8, 9, 10, 11, 12, 13, 14] (by decide +kernel) (by decide +kernel)
set_option maxRecDepth 20000 in
theorem gX3_lag_X3_nodeAt : GoodIn wsX3_lag (wsV RX3 44 RX3 yX3_nodeAt wsX3_nodeAt) := goodIn_app (goodIn_of _ (by decide +kernel)) ggX3_lag_X3_nodeAt
theorem dX3_lag_0 : decode cX3_lag 0 = .ok (.iconst 0, 1) := by decide +kernel
theorem dX3_lag_1 : decode cX3_lag 1 = .ok (.istore_n 1, 1) := by decide +kernel
theorem dX3_lag_2 : decode cX3_lag 2 = .ok (.iconst 0, 1) := by decide +kernel
theorem dX3_lag_3 : decode cX3_lag 3 = .ok (.istore_n 2, 1) := by decide +kernel
theorem dX3_lag_4 : decode cX3_lag 4 = .ok (.iconst 0, 1) := by decide +kernel
theorem dX3_lag_5 : decode cX3_lag 5 = .ok (.istore_n 3, 1) := by decide +kernel
theorem dX3_lag_6 : decode cX3_lag 6 = .ok (.iconst 0, 1) := by decide +kernel
theorem dX3_lag_7 : decode cX3_lag 7 = .ok (.istore 4, 2) := by decide +kernel
theorem dX3_lag_9 : decode cX3_lag 9 = .ok (.iload 4, 2) := by decide +kernel
theorem dX3_lag_11 : decode cX3_lag 11 = .ok (.aload_n 0, 1) := by decide +kernel
theorem dX3_lag_12 : decode cX3_lag 12 = .ok (.getfield 29, 3) := by decide +kernel
theorem dX3_lag_15 : decode cX3_lag 15 = .ok (.if_icmp .ge 48, 3) := by decide +kernel
theorem dX3_lag_18 : decode cX3_lag 18 = .ok (.aload_n 0, 1) := by decide +kernel
theorem dX3_lag_19 : decode cX3_lag 19 = .ok (.iload 4, 2) := by decide +kernel
theorem dX3_lag_21 : decode cX3_lag 21 = .ok (.invokevirtual 44, 3) := by decide +kernel
theorem dX3_lag_24 : decode cX3_lag 24 = .ok (.astore 5, 2) := by decide +kernel
theorem dX3_lag_26 : decode cX3_lag 26 = .ok (.aload 5, 2) := by decide +kernel
theorem dX3_lag_28 : decode cX3_lag 28 = .ok (.getfield 48, 3) := by decide +kernel
theorem dX3_lag_31 : decode cX3_lag 31 = .ok (.ifCond .ne 26, 3) := by decide +kernel
theorem dX3_lag_34 : decode cX3_lag 34 = .ok (.iload_n 1, 1) := by decide +kernel
theorem dX3_lag_35 : decode cX3_lag 35 = .ok (.ifCond .ne 9, 3) := by decide +kernel
theorem dX3_lag_38 : decode cX3_lag 38 = .ok (.aload 5, 2) := by decide +kernel
theorem dX3_lag_40 : decode cX3_lag 40 = .ok (.getfield 52, 3) := by decide +kernel
theorem dX3_lag_43 : decode cX3_lag 43 = .ok (.istore_n 2, 1) := by decide +kernel
theorem dX3_lag_44 : decode cX3_lag 44 = .ok (.iinc 1 1, 3) := by decide +kernel
theorem dX3_lag_47 : decode cX3_lag 47 = .ok (.iload_n 3, 1) := by decide +kernel
theorem dX3_lag_48 : decode cX3_lag 48 = .ok (.iload_n 2, 1) := by decide +kernel
theorem dX3_lag_49 : decode cX3_lag 49 = .ok (.aload 5, 2) := by decide +kernel
theorem dX3_lag_51 : decode cX3_lag 51 = .ok (.getfield 52, 3) := by decide +kernel
theorem dX3_lag_54 : decode cX3_lag 54 = .ok (.isub, 1) := by decide +kernel
theorem dX3_lag_55 : decode cX3_lag 55 = .ok (.iadd, 1) := by decide +kernel
theorem dX3_lag_56 : decode cX3_lag 56 = .ok (.istore_n 3, 1) := by decide +kernel
theorem dX3_lag_57 : decode cX3_lag 57 = .ok (.iinc 4 1, 3) := by decide +kernel
theorem dX3_lag_60 : decode cX3_lag 60 = .ok (.goto (-51), 3) := by decide +kernel
theorem dX3_lag_63 : decode cX3_lag 63 = .ok (.iload_n 1, 1) := by decide +kernel
theorem dX3_lag_64 : decode cX3_lag 64 = .ok (.ifCond .ne 7, 3) := by decide +kernel
theorem dX3_lag_67 : decode cX3_lag 67 = .ok (.dconst 0, 1) := by decide +kernel
theorem dX3_lag_68 : decode cX3_lag 68 = .ok (.goto 8, 3) := by decide +kernel
theorem dX3_lag_71 : decode cX3_lag 71 = .ok (.iload_n 3, 1) := by decide +kernel
theorem dX3_lag_72 : decode cX3_lag 72 = .ok (.i2d, 1) := by decide +kernel
theorem dX3_lag_73 : decode cX3_lag 73 = .ok (.iload_n 1, 1) := by decide +kernel
theorem dX3_lag_74 : decode cX3_lag 74 = .ok (.i2d, 1) := by decide +kernel
theorem dX3_lag_75 : decode cX3_lag 75 = .ok (.ddiv, 1) := by decide +kernel
theorem dX3_lag_76 : decode cX3_lag 76 = .ok (.dreturn, 1) := by decide +kernel
theorem dX3_isNode_0 : decode cX3_isNode 0 = .ok (.iload_n 1, 1) := by decide +kernel
theorem dX3_isNode_1 : decode cX3_isNode 1 = .ok (.ifCond .lt 16, 3) := by decide +kernel
theorem dX3_isNode_4 : decode cX3_isNode 4 = .ok (.iload_n 1, 1) := by decide +kernel
theorem dX3_isNode_5 : decode cX3_isNode 5 = .ok (.aload_n 0, 1) := by decide +kernel
theorem dX3_isNode_6 : decode cX3_isNode 6 = .ok (.getfield 22, 3) := by decide +kernel
theorem dX3_isNode_9 : decode cX3_isNode 9 = .ok (.arraylength, 1) := by decide +kernel
theorem dX3_isNode_10 : decode cX3_isNode 10 = .ok (.if_icmp .ge 7, 3) := by decide +kernel
theorem dX3_isNode_13 : decode cX3_isNode 13 = .ok (.iconst 1, 1) := by decide +kernel
theorem dX3_isNode_14 : decode cX3_isNode 14 = .ok (.goto 4, 3) := by decide +kernel
theorem dX3_isNode_17 : decode cX3_isNode 17 = .ok (.iconst 0, 1) := by decide +kernel
theorem dX3_isNode_18 : decode cX3_isNode 18 = .ok (.ireturn, 1) := by decide +kernel
theorem dX3_isKey_0 : decode cX3_isKey 0 = .ok (.iload_n 0, 1) := by decide +kernel
theorem dX3_isKey_1 : decode cX3_isKey 1 = .ok (.ifCond .lt 13, 3) := by decide +kernel
theorem dX3_isKey_4 : decode cX3_isKey 4 = .ok (.iload_n 0, 1) := by decide +kernel
theorem dX3_isKey_5 : decode cX3_isKey 5 = .ok (.bipush 8, 2) := by decide +kernel
theorem dX3_isKey_7 : decode cX3_isKey 7 = .ok (.if_icmp .ge 7, 3) := by decide +kernel
theorem dX3_isKey_10 : decode cX3_isKey 10 = .ok (.iconst 1, 1) := by decide +kernel
theorem dX3_isKey_11 : decode cX3_isKey 11 = .ok (.goto 4, 3) := by decide +kernel
theorem dX3_isKey_14 : decode cX3_isKey 14 = .ok (.iconst 0, 1) := by decide +kernel
theorem dX3_isKey_15 : decode cX3_isKey 15 = .ok (.ireturn, 1) := by decide +kernel
theorem dX3_nodeAt_0 : decode cX3_nodeAt 0 = .ok (.aload_n 0, 1) := by decide +kernel
theorem dX3_nodeAt_1 : decode cX3_nodeAt 1 = .ok (.getfield 22, 3) := by decide +kernel
theorem dX3_nodeAt_4 : decode cX3_nodeAt 4 = .ok (.aload_n 0, 1) := by decide +kernel
theorem dX3_nodeAt_5 : decode cX3_nodeAt 5 = .ok (.getfield 26, 3) := by decide +kernel
theorem dX3_nodeAt_8 : decode cX3_nodeAt 8 = .ok (.iload_n 1, 1) := by decide +kernel
theorem dX3_nodeAt_9 : decode cX3_nodeAt 9 = .ok (.iaload, 1) := by decide +kernel
theorem dX3_nodeAt_10 : decode cX3_nodeAt 10 = .ok (.aaload, 1) := by decide +kernel
theorem dX3_nodeAt_11 : decode cX3_nodeAt 11 = .ok (.areturn, 1) := by decide +kernel
theorem dX3_isTailAt_0 : decode cX3_isTailAt 0 = .ok (.iload_n 1, 1) := by decide +kernel
theorem dX3_isTailAt_1 : decode cX3_isTailAt 1 = .ok (.aload_n 0, 1) := by decide +kernel
theorem dX3_isTailAt_2 : decode cX3_isTailAt 2 = .ok (.getfield 29, 3) := by decide +kernel
theorem dX3_isTailAt_5 : decode cX3_isTailAt 5 = .ok (.iconst 1, 1) := by decide +kernel
theorem dX3_isTailAt_6 : decode cX3_isTailAt 6 = .ok (.isub, 1) := by decide +kernel
theorem dX3_isTailAt_7 : decode cX3_isTailAt 7 = .ok (.if_icmp .ne 7, 3) := by decide +kernel
theorem dX3_isTailAt_10 : decode cX3_isTailAt 10 = .ok (.iconst 1, 1) := by decide +kernel
theorem dX3_isTailAt_11 : decode cX3_isTailAt 11 = .ok (.goto 4, 3) := by decide +kernel
theorem dX3_isTailAt_14 : decode cX3_isTailAt 14 = .ok (.iconst 0, 1) := by decide +kernel
theorem dX3_isTailAt_15 : decode cX3_isTailAt 15 = .ok (.ireturn, 1) := by decide +kernel
theorem dX3_positionOf_0 : decode cX3_positionOf 0 = .ok (.iconst 0, 1) := by decide +kernel
theorem dX3_positionOf_1 : decode cX3_positionOf 1 = .ok (.istore_n 2, 1) := by decide +kernel
theorem dX3_positionOf_2 : decode cX3_positionOf 2 = .ok (.iload_n 2, 1) := by decide +kernel
theorem dX3_positionOf_3 : decode cX3_positionOf 3 = .ok (.aload_n 0, 1) := by decide +kernel
theorem dX3_positionOf_4 : decode cX3_positionOf 4 = .ok (.getfield 29, 3) := by decide +kernel
theorem dX3_positionOf_7 : decode cX3_positionOf 7 = .ok (.if_icmp .ge 21, 3) := by decide +kernel
theorem dX3_positionOf_10 : decode cX3_positionOf 10 = .ok (.aload_n 0, 1) := by decide +kernel
theorem dX3_positionOf_11 : decode cX3_positionOf 11 = .ok (.getfield 26, 3) := by decide +kernel
theorem dX3_positionOf_14 : decode cX3_positionOf 14 = .ok (.iload_n 2, 1) := by decide +kernel
theorem dX3_positionOf_15 : decode cX3_positionOf 15 = .ok (.iaload, 1) := by decide +kernel
theorem dX3_positionOf_16 : decode cX3_positionOf 16 = .ok (.iload_n 1, 1) := by decide +kernel
theorem dX3_positionOf_17 : decode cX3_positionOf 17 = .ok (.if_icmp .ne 5, 3) := by decide +kernel
theorem dX3_positionOf_20 : decode cX3_positionOf 20 = .ok (.iload_n 2, 1) := by decide +kernel
theorem dX3_positionOf_21 : decode cX3_positionOf 21 = .ok (.ireturn, 1) := by decide +kernel
theorem dX3_positionOf_22 : decode cX3_positionOf 22 = .ok (.iinc 2 1, 3) := by decide +kernel
theorem dX3_positionOf_25 : decode cX3_positionOf 25 = .ok (.goto (-23), 3) := by decide +kernel
theorem dX3_positionOf_28 : decode cX3_positionOf 28 = .ok (.iconst (-1), 1) := by decide +kernel
theorem dX3_positionOf_29 : decode cX3_positionOf 29 = .ok (.ireturn, 1) := by decide +kernel
theorem dX3_countStanding_0 : decode cX3_countStanding 0 = .ok (.iconst 0, 1) := by decide +kernel
theorem dX3_countStanding_1 : decode cX3_countStanding 1 = .ok (.istore_n 1, 1) := by decide +kernel
theorem dX3_countStanding_2 : decode cX3_countStanding 2 = .ok (.iconst 0, 1) := by decide +kernel
theorem dX3_countStanding_3 : decode cX3_countStanding 3 = .ok (.istore_n 2, 1) := by decide +kernel
theorem dX3_countStanding_4 : decode cX3_countStanding 4 = .ok (.iload_n 2, 1) := by decide +kernel
theorem dX3_countStanding_5 : decode cX3_countStanding 5 = .ok (.aload_n 0, 1) := by decide +kernel
theorem dX3_countStanding_6 : decode cX3_countStanding 6 = .ok (.getfield 22, 3) := by decide +kernel
theorem dX3_countStanding_9 : decode cX3_countStanding 9 = .ok (.arraylength, 1) := by decide +kernel
theorem dX3_countStanding_10 : decode cX3_countStanding 10 = .ok (.if_icmp .ge 24, 3) := by decide +kernel
theorem dX3_countStanding_13 : decode cX3_countStanding 13 = .ok (.aload_n 0, 1) := by decide +kernel
theorem dX3_countStanding_14 : decode cX3_countStanding 14 = .ok (.getfield 22, 3) := by decide +kernel
theorem dX3_countStanding_17 : decode cX3_countStanding 17 = .ok (.iload_n 2, 1) := by decide +kernel
theorem dX3_countStanding_18 : decode cX3_countStanding 18 = .ok (.aaload, 1) := by decide +kernel
theorem dX3_countStanding_19 : decode cX3_countStanding 19 = .ok (.getfield 48, 3) := by decide +kernel
theorem dX3_countStanding_22 : decode cX3_countStanding 22 = .ok (.ifCond .ne 6, 3) := by decide +kernel
theorem dX3_countStanding_25 : decode cX3_countStanding 25 = .ok (.iinc 1 1, 3) := by decide +kernel
theorem dX3_countStanding_28 : decode cX3_countStanding 28 = .ok (.iinc 2 1, 3) := by decide +kernel
theorem dX3_countStanding_31 : decode cX3_countStanding 31 = .ok (.goto (-27), 3) := by decide +kernel
theorem dX3_countStanding_34 : decode cX3_countStanding 34 = .ok (.iload_n 1, 1) := by decide +kernel
theorem dX3_countStanding_35 : decode cX3_countStanding 35 = .ok (.ireturn, 1) := by decide +kernel
set_option maxRecDepth 20000 in
theorem ggX3_updatesTowards_X3_nodeAt : GoodIn wsX3_updatesTowards wsX3_nodeAt := goodIn_r _ [5, 6, 7, 19, 20, 21, 22, 23, 24] (by decide +kernel) (by decide +kernel)
set_option maxRecDepth 20000 in
theorem gX3_updatesTowards_X3_nodeAt : GoodIn wsX3_updatesTowards (wsV RX3 44 RX3 yX3_nodeAt wsX3_nodeAt) := goodIn_app (goodIn_of _ (by decide +kernel)) ggX3_updatesTowards_X3_nodeAt
theorem dX3_updatesTowards_0 : decode cX3_updatesTowards 0 = .ok (.iload_n 1, 1) := by decide +kernel
theorem dX3_updatesTowards_1 : decode cX3_updatesTowards 1 = .ok (.ifCond .le 22, 3) := by decide +kernel
theorem dX3_updatesTowards_4 : decode cX3_updatesTowards 4 = .ok (.aload_n 0, 1) := by decide +kernel
theorem dX3_updatesTowards_5 : decode cX3_updatesTowards 5 = .ok (.iload_n 1, 1) := by decide +kernel
theorem dX3_updatesTowards_6 : decode cX3_updatesTowards 6 = .ok (.iconst 1, 1) := by decide +kernel
theorem dX3_updatesTowards_7 : decode cX3_updatesTowards 7 = .ok (.isub, 1) := by decide +kernel
theorem dX3_updatesTowards_8 : decode cX3_updatesTowards 8 = .ok (.invokevirtual 44, 3) := by decide +kernel
theorem dX3_updatesTowards_11 : decode cX3_updatesTowards 11 = .ok (.getfield 88, 3) := by decide +kernel
theorem dX3_updatesTowards_14 : decode cX3_updatesTowards 14 = .ok (.getfield 92, 3) := by decide +kernel
theorem dX3_updatesTowards_17 : decode cX3_updatesTowards 17 = .ok (.getfield 154, 3) := by decide +kernel
theorem dX3_updatesTowards_20 : decode cX3_updatesTowards 20 = .ok (.goto 4, 3) := by decide +kernel
theorem dX3_updatesTowards_23 : decode cX3_updatesTowards 23 = .ok (.iconst 0, 1) := by decide +kernel
theorem dX3_updatesTowards_24 : decode cX3_updatesTowards 24 = .ok (.ireturn, 1) := by decide +kernel
set_option maxRecDepth 20000 in
theorem ggX3_acknowledgementsTowards_X3_isTailAt : GoodIn wsX3_acknowledgementsTowards wsX3_isTailAt := goodIn_r _ [5, 6, 24, 25, 26, 27, 28, 29] (by decide +kernel) (by decide +kernel)
set_option maxRecDepth 20000 in
theorem gX3_acknowledgementsTowards_X3_isTailAt : GoodIn wsX3_acknowledgementsTowards (wsV RX3 159 RX3 yX3_isTailAt wsX3_isTailAt) := goodIn_app (goodIn_of _ (by decide +kernel)) ggX3_acknowledgementsTowards_X3_isTailAt
set_option maxRecDepth 20000 in
theorem ggX3_acknowledgementsTowards_X3_nodeAt : GoodIn wsX3_acknowledgementsTowards wsX3_nodeAt := goodIn_r _ [10, 11, 12, 24, 25, 26, 27, 28, 29] (by decide +kernel) (by decide +kernel)
set_option maxRecDepth 20000 in
theorem gX3_acknowledgementsTowards_X3_nodeAt : GoodIn wsX3_acknowledgementsTowards (wsV RX3 44 RX3 yX3_nodeAt wsX3_nodeAt) := goodIn_app (goodIn_of _ (by decide +kernel)) ggX3_acknowledgementsTowards_X3_nodeAt
theorem dX3_acknowledgementsTowards_0 : decode cX3_acknowledgementsTowards 0 = .ok (.iload_n 1, 1) := by decide +kernel
theorem dX3_acknowledgementsTowards_1 : decode cX3_acknowledgementsTowards 1 = .ok (.iconst (-1), 1) := by decide +kernel
theorem dX3_acknowledgementsTowards_2 : decode cX3_acknowledgementsTowards 2 = .ok (.if_icmp .eq 15, 3) := by decide +kernel
theorem dX3_acknowledgementsTowards_5 : decode cX3_acknowledgementsTowards 5 = .ok (.aload_n 0, 1) := by decide +kernel
theorem dX3_acknowledgementsTowards_6 : decode cX3_acknowledgementsTowards 6 = .ok (.iload_n 1, 1) := by decide +kernel
theorem dX3_acknowledgementsTowards_7 : decode cX3_acknowledgementsTowards 7 = .ok (.invokevirtual 159, 3) := by decide +kernel
theorem dX3_acknowledgementsTowards_10 : decode cX3_acknowledgementsTowards 10 = .ok (.ifCond .ne 7, 3) := by decide +kernel
theorem dX3_acknowledgementsTowards_13 : decode cX3_acknowledgementsTowards 13 = .ok (.iconst 1, 1) := by decide +kernel
theorem dX3_acknowledgementsTowards_14 : decode cX3_acknowledgementsTowards 14 = .ok (.goto 4, 3) := by decide +kernel
theorem dX3_acknowledgementsTowards_17 : decode cX3_acknowledgementsTowards 17 = .ok (.iconst 0, 1) := by decide +kernel
theorem dX3_acknowledgementsTowards_18 : decode cX3_acknowledgementsTowards 18 = .ok (.istore_n 2, 1) := by decide +kernel
theorem dX3_acknowledgementsTowards_19 : decode cX3_acknowledgementsTowards 19 = .ok (.iload_n 2, 1) := by decide +kernel
theorem dX3_acknowledgementsTowards_20 : decode cX3_acknowledgementsTowards 20 = .ok (.ifCond .eq 20, 3) := by decide +kernel
theorem dX3_acknowledgementsTowards_23 : decode cX3_acknowledgementsTowards 23 = .ok (.aload_n 0, 1) := by decide +kernel
theorem dX3_acknowledgementsTowards_24 : decode cX3_acknowledgementsTowards 24 = .ok (.iload_n 1, 1) := by decide +kernel
theorem dX3_acknowledgementsTowards_25 : decode cX3_acknowledgementsTowards 25 = .ok (.invokevirtual 44, 3) := by decide +kernel
theorem dX3_acknowledgementsTowards_28 : decode cX3_acknowledgementsTowards 28 = .ok (.getfield 88, 3) := by decide +kernel
theorem dX3_acknowledgementsTowards_31 : decode cX3_acknowledgementsTowards 31 = .ok (.getfield 109, 3) := by decide +kernel
theorem dX3_acknowledgementsTowards_34 : decode cX3_acknowledgementsTowards 34 = .ok (.getfield 154, 3) := by decide +kernel
theorem dX3_acknowledgementsTowards_37 : decode cX3_acknowledgementsTowards 37 = .ok (.goto 4, 3) := by decide +kernel
theorem dX3_acknowledgementsTowards_40 : decode cX3_acknowledgementsTowards 40 = .ok (.iconst 0, 1) := by decide +kernel
theorem dX3_acknowledgementsTowards_41 : decode cX3_acknowledgementsTowards 41 = .ok (.ireturn, 1) := by decide +kernel
set_option maxRecDepth 20000 in
theorem ggX3_applyAt_X3_nodeAt : GoodIn wsX3_applyAt wsX3_nodeAt := goodIn_r _ [7, 8, 9, 45, 46, 47, 48, 49, 50] (by decide +kernel) (by decide +kernel)
set_option maxRecDepth 20000 in
theorem gX3_applyAt_X3_nodeAt : GoodIn wsX3_applyAt (wsV RX3 44 RX3 yX3_nodeAt wsX3_nodeAt) := goodIn_app (goodIn_of _ (by decide +kernel)) ggX3_applyAt_X3_nodeAt
set_option maxRecDepth 20000 in
theorem ggX3_applyAt_X3_isTailAt : GoodIn wsX3_applyAt wsX3_isTailAt := goodIn_r _ [13, 14, 45, 46, 47, 48, 49, 50] (by decide +kernel) (by decide +kernel)
set_option maxRecDepth 20000 in
theorem gX3_applyAt_X3_isTailAt : GoodIn wsX3_applyAt (wsV RX3 159 RX3 yX3_isTailAt wsX3_isTailAt) := goodIn_app (goodIn_of _ (by decide +kernel)) ggX3_applyAt_X3_isTailAt
set_option maxRecDepth 20000 in
theorem ggX3_applyAt_X3_acknowledgeAt : GoodIn wsX3_applyAt wsX3_acknowledgeAt := goodIn_r _ [18, 19, 3, 4, 5, 6, 7, 8, 9, 10, 11, 12, 13, 14, 20, 21, 22, 23, 24, 25, 26, 27, 28, 29, 30, 31, 32, 33, 34, 40, 41, 42, 43, 44, 45, 46, 47, 48, 49, 50, 51, 52, 53, 54, 55, 56] (by decide +kernel) (by decide +kernel)
set_option maxRecDepth 20000 in
theorem gX3_applyAt_X3_acknowledgeAt : GoodIn wsX3_applyAt (wsV RX3 112 RX3 yX3_acknowledgeAt wsX3_acknowledgeAt) := goodIn_app (goodIn_of _ (by decide +kernel)) ggX3_applyAt_X3_acknowledgeAt
set_option maxRecDepth 20000 in
theorem ggX3_applyAt_X0_putUpdate : GoodIn wsX3_applyAt wsX0_putUpdate := goodIn_r _ [38, 25, 39, 27, 28, 29, 30, 31, 32, 33, 34, 51, 52, 53, 54, 55, 56] (by decide +kernel) (by decide +kernel)
set_option maxRecDepth 20000 in
theorem gX3_applyAt_X0_putUpdate : GoodIn wsX3_applyAt (wsV RX3 148 RX0 yX0_putUpdate wsX0_putUpdate) := goodIn_app (goodIn_of _ (by decide +kernel)) ggX3_applyAt_X0_putUpdate
theorem dX3_applyAt_0 : decode cX3_applyAt 0 = .ok (.aload_n 0, 1) := by decide +kernel
theorem dX3_applyAt_1 : decode cX3_applyAt 1 = .ok (.iload_n 1, 1) := by decide +kernel
theorem dX3_applyAt_2 : decode cX3_applyAt 2 = .ok (.invokevirtual 44, 3) := by decide +kernel
theorem dX3_applyAt_5 : decode cX3_applyAt 5 = .ok (.astore_n 3, 1) := by decide +kernel
theorem dX3_applyAt_6 : decode cX3_applyAt 6 = .ok (.aload_n 3, 1) := by decide +kernel
theorem dX3_applyAt_7 : decode cX3_applyAt 7 = .ok (.iload_n 2, 1) := by decide +kernel
theorem dX3_applyAt_8 : decode cX3_applyAt 8 = .ok (.putfield 52, 3) := by decide +kernel
theorem dX3_applyAt_11 : decode cX3_applyAt 11 = .ok (.aload_n 3, 1) := by decide +kernel
theorem dX3_applyAt_12 : decode cX3_applyAt 12 = .ok (.getfield 66, 3) := by decide +kernel
theorem dX3_applyAt_15 : decode cX3_applyAt 15 = .ok (.aload_n 0, 1) := by decide +kernel
theorem dX3_applyAt_16 : decode cX3_applyAt 16 = .ok (.getfield 9, 3) := by decide +kernel
theorem dX3_applyAt_19 : decode cX3_applyAt 19 = .ok (.iload_n 2, 1) := by decide +kernel
theorem dX3_applyAt_20 : decode cX3_applyAt 20 = .ok (.iaload, 1) := by decide +kernel
theorem dX3_applyAt_21 : decode cX3_applyAt 21 = .ok (.aload_n 0, 1) := by decide +kernel
theorem dX3_applyAt_22 : decode cX3_applyAt 22 = .ok (.getfield 13, 3) := by decide +kernel
theorem dX3_applyAt_25 : decode cX3_applyAt 25 = .ok (.iload_n 2, 1) := by decide +kernel
theorem dX3_applyAt_26 : decode cX3_applyAt 26 = .ok (.iaload, 1) := by decide +kernel
theorem dX3_applyAt_27 : decode cX3_applyAt 27 = .ok (.iastore, 1) := by decide +kernel
theorem dX3_applyAt_28 : decode cX3_applyAt 28 = .ok (.aload_n 0, 1) := by decide +kernel
theorem dX3_applyAt_29 : decode cX3_applyAt 29 = .ok (.iload_n 1, 1) := by decide +kernel
theorem dX3_applyAt_30 : decode cX3_applyAt 30 = .ok (.invokevirtual 159, 3) := by decide +kernel
theorem dX3_applyAt_33 : decode cX3_applyAt 33 = .ok (.ifCond .eq 12, 3) := by decide +kernel
theorem dX3_applyAt_36 : decode cX3_applyAt 36 = .ok (.aload_n 0, 1) := by decide +kernel
theorem dX3_applyAt_37 : decode cX3_applyAt 37 = .ok (.iload_n 1, 1) := by decide +kernel
theorem dX3_applyAt_38 : decode cX3_applyAt 38 = .ok (.iload_n 2, 1) := by decide +kernel
theorem dX3_applyAt_39 : decode cX3_applyAt 39 = .ok (.invokevirtual 112, 3) := by decide +kernel
theorem dX3_applyAt_42 : decode cX3_applyAt 42 = .ok (.goto 11, 3) := by decide +kernel
theorem dX3_applyAt_45 : decode cX3_applyAt 45 = .ok (.aload_n 3, 1) := by decide +kernel
theorem dX3_applyAt_46 : decode cX3_applyAt 46 = .ok (.getfield 88, 3) := by decide +kernel
theorem dX3_applyAt_49 : decode cX3_applyAt 49 = .ok (.iload_n 2, 1) := by decide +kernel
theorem dX3_applyAt_50 : decode cX3_applyAt 50 = .ok (.invokevirtual 148, 3) := by decide +kernel
theorem dX3_applyAt_53 : decode cX3_applyAt 53 = .ok (.return_, 1) := by decide +kernel
set_option maxRecDepth 20000 in
theorem ggX3_acknowledgeAt_X3_nodeAt : GoodIn wsX3_acknowledgeAt wsX3_nodeAt := goodIn_r _ [6, 7, 8, 34, 35, 36, 37, 38, 39] (by decide +kernel) (by decide +kernel)
set_option maxRecDepth 20000 in
theorem gX3_acknowledgeAt_X3_nodeAt : GoodIn wsX3_acknowledgeAt (wsV RX3 44 RX3 yX3_nodeAt wsX3_nodeAt) := goodIn_app (goodIn_of _ (by decide +kernel)) ggX3_acknowledgeAt_X3_nodeAt
set_option maxRecDepth 20000 in
theorem ggX3_acknowledgeAt_X3_isTailAt : GoodIn wsX3_acknowledgeAt wsX3_isTailAt := goodIn_r _ [12, 13, 34, 35, 36, 37, 38, 39] (by decide +kernel) (by decide +kernel)
set_option maxRecDepth 20000 in
theorem gX3_acknowledgeAt_X3_isTailAt : GoodIn wsX3_acknowledgeAt (wsV RX3 159 RX3 yX3_isTailAt wsX3_isTailAt) := goodIn_app (goodIn_of _ (by decide +kernel)) ggX3_acknowledgeAt_X3_isTailAt
set_option maxRecDepth 20000 in
theorem ggX3_acknowledgeAt_X0_putAcknowledgement : GoodIn wsX3_acknowledgeAt wsX0_putAcknowledgement := goodIn_r _ [18, 19, 20, 21, 22, 23, 24, 25, 26, 27, 28, 40, 41, 42, 43, 44, 45] (by decide +kernel) (by decide +kernel)
set_option maxRecDepth 20000 in
theorem gX3_acknowledgeAt_X0_putAcknowledgement : GoodIn wsX3_acknowledgeAt (wsV RX3 151 RX0 yX0_putAcknowledgement wsX0_putAcknowledgement) := goodIn_app (goodIn_of _ (by decide +kernel)) ggX3_acknowledgeAt_X0_putAcknowledgement
theorem dX3_acknowledgeAt_0 : decode cX3_acknowledgeAt 0 = .ok (.aload_n 0, 1) := by decide +kernel
theorem dX3_acknowledgeAt_1 : decode cX3_acknowledgeAt 1 = .ok (.iload_n 1, 1) := by decide +kernel
theorem dX3_acknowledgeAt_2 : decode cX3_acknowledgeAt 2 = .ok (.invokevirtual 44, 3) := by decide +kernel
theorem dX3_acknowledgeAt_5 : decode cX3_acknowledgeAt 5 = .ok (.iload_n 2, 1) := by decide +kernel
theorem dX3_acknowledgeAt_6 : decode cX3_acknowledgeAt 6 = .ok (.putfield 139, 3) := by decide +kernel
theorem dX3_acknowledgeAt_9 : decode cX3_acknowledgeAt 9 = .ok (.aload_n 0, 1) := by decide +kernel
theorem dX3_acknowledgeAt_10 : decode cX3_acknowledgeAt 10 = .ok (.iload_n 1, 1) := by decide +kernel
theorem dX3_acknowledgeAt_11 : decode cX3_acknowledgeAt 11 = .ok (.invokevirtual 159, 3) := by decide +kernel
theorem dX3_acknowledgeAt_14 : decode cX3_acknowledgeAt 14 = .ok (.ifCond .eq 8, 3) := by decide +kernel
theorem dX3_acknowledgeAt_17 : decode cX3_acknowledgeAt 17 = .ok (.aload_n 0, 1) := by decide +kernel
theorem dX3_acknowledgeAt_18 : decode cX3_acknowledgeAt 18 = .ok (.iload_n 2, 1) := by decide +kernel
theorem dX3_acknowledgeAt_19 : decode cX3_acknowledgeAt 19 = .ok (.putfield 16, 3) := by decide +kernel
theorem dX3_acknowledgeAt_22 : decode cX3_acknowledgeAt 22 = .ok (.iload_n 1, 1) := by decide +kernel
theorem dX3_acknowledgeAt_23 : decode cX3_acknowledgeAt 23 = .ok (.ifCond .le 17, 3) := by decide +kernel
theorem dX3_acknowledgeAt_26 : decode cX3_acknowledgeAt 26 = .ok (.aload_n 0, 1) := by decide +kernel
theorem dX3_acknowledgeAt_27 : decode cX3_acknowledgeAt 27 = .ok (.iload_n 1, 1) := by decide +kernel
theorem dX3_acknowledgeAt_28 : decode cX3_acknowledgeAt 28 = .ok (.iconst 1, 1) := by decide +kernel
theorem dX3_acknowledgeAt_29 : decode cX3_acknowledgeAt 29 = .ok (.isub, 1) := by decide +kernel
theorem dX3_acknowledgeAt_30 : decode cX3_acknowledgeAt 30 = .ok (.invokevirtual 44, 3) := by decide +kernel
theorem dX3_acknowledgeAt_33 : decode cX3_acknowledgeAt 33 = .ok (.getfield 88, 3) := by decide +kernel
theorem dX3_acknowledgeAt_36 : decode cX3_acknowledgeAt 36 = .ok (.iload_n 2, 1) := by decide +kernel
theorem dX3_acknowledgeAt_37 : decode cX3_acknowledgeAt 37 = .ok (.invokevirtual 151, 3) := by decide +kernel
theorem dX3_acknowledgeAt_40 : decode cX3_acknowledgeAt 40 = .ok (.return_, 1) := by decide +kernel
set_option maxRecDepth 20000 in
theorem ggX3_acknowledgeAllSentAtTail_X3_nodeAt : GoodIn wsX3_acknowledgeAllSentAtTail wsX3_nodeAt := goodIn_r _ [6, 7, 8, 33, 34, 35, 36, 37, 38] (by decide +kernel) (by decide +kernel)
set_option maxRecDepth 20000 in
theorem gX3_acknowledgeAllSentAtTail_X3_nodeAt : GoodIn wsX3_acknowledgeAllSentAtTail (wsV RX3 44 RX3 yX3_nodeAt wsX3_nodeAt) := goodIn_app (goodIn_of _ (by decide +kernel)) ggX3_acknowledgeAllSentAtTail_X3_nodeAt
set_option maxRecDepth 20000 in
theorem ggX3_acknowledgeAllSentAtTail_X3_acknowledgeAt : GoodIn wsX3_acknowledgeAllSentAtTail wsX3_acknowledgeAt := goodIn_r _ [12, 13, 2, 3, 4, 5, 6, 7, 8, 14, 15, 16, 17, 1, 18, 19, 20, 21, 22, 23, 24, 25, 26, 27, 28, 29, 30, 31, 32, 39, 40, 41, 42, 43, 33, 34, 35, 36, 37, 38, 44, 45, 46, 47, 48, 49] (by decide +kernel) (by decide +kernel)
set_option maxRecDepth 20000 in
theorem gX3_acknowledgeAllSentAtTail_X3_acknowledgeAt : GoodIn wsX3_acknowledgeAllSentAtTail (wsV RX3 112 RX3 yX3_acknowledgeAt wsX3_acknowledgeAt) := goodIn_app (goodIn_of _ (by decide +kernel)) ggX3_acknowledgeAllSentAtTail_X3_acknowledgeAt
theorem dX3_acknowledgeAllSentAtTail_0 : decode cX3_acknowledgeAllSentAtTail 0 = .ok (.aload_n 0, 1) := by decide +kernel
theorem dX3_acknowledgeAllSentAtTail_1 : decode cX3_acknowledgeAllSentAtTail 1 = .ok (.getfield 29, 3) := by decide +kernel
theorem dX3_acknowledgeAllSentAtTail_4 : decode cX3_acknowledgeAllSentAtTail 4 = .ok (.iconst 1, 1) := by decide +kernel
theorem dX3_acknowledgeAllSentAtTail_5 : decode cX3_acknowledgeAllSentAtTail 5 = .ok (.isub, 1) := by decide +kernel
theorem dX3_acknowledgeAllSentAtTail_6 : decode cX3_acknowledgeAllSentAtTail 6 = .ok (.istore_n 1, 1) := by decide +kernel
theorem dX3_acknowledgeAllSentAtTail_7 : decode cX3_acknowledgeAllSentAtTail 7 = .ok (.aload_n 0, 1) := by decide +kernel
theorem dX3_acknowledgeAllSentAtTail_8 : decode cX3_acknowledgeAllSentAtTail 8 = .ok (.iload_n 1, 1) := by decide +kernel
theorem dX3_acknowledgeAllSentAtTail_9 : decode cX3_acknowledgeAllSentAtTail 9 = .ok (.invokevirtual 44, 3) := by decide +kernel
theorem dX3_acknowledgeAllSentAtTail_12 : decode cX3_acknowledgeAllSentAtTail 12 = .ok (.astore_n 2, 1) := by decide +kernel
theorem dX3_acknowledgeAllSentAtTail_13 : decode cX3_acknowledgeAllSentAtTail 13 = .ok (.aload_n 2, 1) := by decide +kernel
theorem dX3_acknowledgeAllSentAtTail_14 : decode cX3_acknowledgeAllSentAtTail 14 = .ok (.getfield 139, 3) := by decide +kernel
theorem dX3_acknowledgeAllSentAtTail_17 : decode cX3_acknowledgeAllSentAtTail 17 = .ok (.iconst 1, 1) := by decide +kernel
theorem dX3_acknowledgeAllSentAtTail_18 : decode cX3_acknowledgeAllSentAtTail 18 = .ok (.iadd, 1) := by decide +kernel
theorem dX3_acknowledgeAllSentAtTail_19 : decode cX3_acknowledgeAllSentAtTail 19 = .ok (.istore_n 3, 1) := by decide +kernel
theorem dX3_acknowledgeAllSentAtTail_20 : decode cX3_acknowledgeAllSentAtTail 20 = .ok (.iload_n 3, 1) := by decide +kernel
theorem dX3_acknowledgeAllSentAtTail_21 : decode cX3_acknowledgeAllSentAtTail 21 = .ok (.aload_n 2, 1) := by decide +kernel
theorem dX3_acknowledgeAllSentAtTail_22 : decode cX3_acknowledgeAllSentAtTail 22 = .ok (.getfield 52, 3) := by decide +kernel
theorem dX3_acknowledgeAllSentAtTail_25 : decode cX3_acknowledgeAllSentAtTail 25 = .ok (.if_icmp .gt 15, 3) := by decide +kernel
theorem dX3_acknowledgeAllSentAtTail_28 : decode cX3_acknowledgeAllSentAtTail 28 = .ok (.aload_n 0, 1) := by decide +kernel
theorem dX3_acknowledgeAllSentAtTail_29 : decode cX3_acknowledgeAllSentAtTail 29 = .ok (.iload_n 1, 1) := by decide +kernel
theorem dX3_acknowledgeAllSentAtTail_30 : decode cX3_acknowledgeAllSentAtTail 30 = .ok (.iload_n 3, 1) := by decide +kernel
theorem dX3_acknowledgeAllSentAtTail_31 : decode cX3_acknowledgeAllSentAtTail 31 = .ok (.invokevirtual 112, 3) := by decide +kernel
theorem dX3_acknowledgeAllSentAtTail_34 : decode cX3_acknowledgeAllSentAtTail 34 = .ok (.iinc 3 1, 3) := by decide +kernel
theorem dX3_acknowledgeAllSentAtTail_37 : decode cX3_acknowledgeAllSentAtTail 37 = .ok (.goto (-17), 3) := by decide +kernel
theorem dX3_acknowledgeAllSentAtTail_40 : decode cX3_acknowledgeAllSentAtTail 40 = .ok (.return_, 1) := by decide +kernel
set_option maxRecDepth 20000 in
theorem ggX3_closeLinksAt_X3_nodeAt : GoodIn wsX3_closeLinksAt wsX3_nodeAt := goodIn_r _ [5, 6, 7, 27, 28, 29, 30, 31, 32] (by decide +kernel) (by decide +kernel)
set_option maxRecDepth 20000 in
theorem gX3_closeLinksAt_X3_nodeAt : GoodIn wsX3_closeLinksAt (wsV RX3 44 RX3 yX3_nodeAt wsX3_nodeAt) := goodIn_app (goodIn_of _ (by decide +kernel)) ggX3_closeLinksAt_X3_nodeAt
set_option maxRecDepth 20000 in
theorem ggX3_closeLinksAt_X0_close : GoodIn wsX3_closeLinksAt wsX0_close := goodIn_r _ [12, 13, 14, 15, 16, 17, 18, 19, 20, 21, 33, 34, 35, 36, 37, 38] (by decide +kernel) (by decide +kernel)
set_option maxRecDepth 20000 in
theorem gX3_closeLinksAt_X0_close : GoodIn wsX3_closeLinksAt (wsV RX3 162 RX0 yX0_close wsX0_close) := goodIn_app (goodIn_of _ (by decide +kernel)) ggX3_closeLinksAt_X0_close
theorem dX3_closeLinksAt_0 : decode cX3_closeLinksAt 0 = .ok (.iload_n 1, 1) := by decide +kernel
theorem dX3_closeLinksAt_1 : decode cX3_closeLinksAt 1 = .ok (.iconst (-1), 1) := by decide +kernel
theorem dX3_closeLinksAt_2 : decode cX3_closeLinksAt 2 = .ok (.if_icmp .ne 4, 3) := by decide +kernel
theorem dX3_closeLinksAt_5 : decode cX3_closeLinksAt 5 = .ok (.return_, 1) := by decide +kernel
theorem dX3_closeLinksAt_6 : decode cX3_closeLinksAt 6 = .ok (.aload_n 0, 1) := by decide +kernel
theorem dX3_closeLinksAt_7 : decode cX3_closeLinksAt 7 = .ok (.iload_n 1, 1) := by decide +kernel
theorem dX3_closeLinksAt_8 : decode cX3_closeLinksAt 8 = .ok (.invokevirtual 44, 3) := by decide +kernel
theorem dX3_closeLinksAt_11 : decode cX3_closeLinksAt 11 = .ok (.getfield 88, 3) := by decide +kernel
theorem dX3_closeLinksAt_14 : decode cX3_closeLinksAt 14 = .ok (.invokevirtual 162, 3) := by decide +kernel
theorem dX3_closeLinksAt_17 : decode cX3_closeLinksAt 17 = .ok (.iload_n 1, 1) := by decide +kernel
theorem dX3_closeLinksAt_18 : decode cX3_closeLinksAt 18 = .ok (.ifCond .le 16, 3) := by decide +kernel
theorem dX3_closeLinksAt_21 : decode cX3_closeLinksAt 21 = .ok (.aload_n 0, 1) := by decide +kernel
theorem dX3_closeLinksAt_22 : decode cX3_closeLinksAt 22 = .ok (.iload_n 1, 1) := by decide +kernel
theorem dX3_closeLinksAt_23 : decode cX3_closeLinksAt 23 = .ok (.iconst 1, 1) := by decide +kernel
theorem dX3_closeLinksAt_24 : decode cX3_closeLinksAt 24 = .ok (.isub, 1) := by decide +kernel
theorem dX3_closeLinksAt_25 : decode cX3_closeLinksAt 25 = .ok (.invokevirtual 44, 3) := by decide +kernel
theorem dX3_closeLinksAt_28 : decode cX3_closeLinksAt 28 = .ok (.getfield 88, 3) := by decide +kernel
theorem dX3_closeLinksAt_31 : decode cX3_closeLinksAt 31 = .ok (.invokevirtual 162, 3) := by decide +kernel
theorem dX3_closeLinksAt_34 : decode cX3_closeLinksAt 34 = .ok (.return_, 1) := by decide +kernel
set_option maxRecDepth 20000 in
theorem ggX3_takeOutFailed_X3_nodeAt : GoodIn wsX3_takeOutFailed wsX3_nodeAt := goodIn_r _ [7, 8, 2, 9, 10, 11, 12, 13, 14] (by decide +kernel) (by decide +kernel)
set_option maxRecDepth 20000 in
theorem gX3_takeOutFailed_X3_nodeAt : GoodIn wsX3_takeOutFailed (wsV RX3 44 RX3 yX3_nodeAt wsX3_nodeAt) := goodIn_app (goodIn_of _ (by decide +kernel)) ggX3_takeOutFailed_X3_nodeAt
theorem dX3_takeOutFailed_0 : decode cX3_takeOutFailed 0 = .ok (.iconst 0, 1) := by decide +kernel
theorem dX3_takeOutFailed_1 : decode cX3_takeOutFailed 1 = .ok (.istore_n 1, 1) := by decide +kernel
theorem dX3_takeOutFailed_2 : decode cX3_takeOutFailed 2 = .ok (.iconst 0, 1) := by decide +kernel
theorem dX3_takeOutFailed_3 : decode cX3_takeOutFailed 3 = .ok (.istore_n 2, 1) := by decide +kernel
theorem dX3_takeOutFailed_4 : decode cX3_takeOutFailed 4 = .ok (.iload_n 2, 1) := by decide +kernel
theorem dX3_takeOutFailed_5 : decode cX3_takeOutFailed 5 = .ok (.aload_n 0, 1) := by decide +kernel
theorem dX3_takeOutFailed_6 : decode cX3_takeOutFailed 6 = .ok (.getfield 29, 3) := by decide +kernel
theorem dX3_takeOutFailed_9 : decode cX3_takeOutFailed 9 = .ok (.if_icmp .ge 35, 3) := by decide +kernel
theorem dX3_takeOutFailed_12 : decode cX3_takeOutFailed 12 = .ok (.aload_n 0, 1) := by decide +kernel
theorem dX3_takeOutFailed_13 : decode cX3_takeOutFailed 13 = .ok (.iload_n 2, 1) := by decide +kernel
theorem dX3_takeOutFailed_14 : decode cX3_takeOutFailed 14 = .ok (.invokevirtual 44, 3) := by decide +kernel
theorem dX3_takeOutFailed_17 : decode cX3_takeOutFailed 17 = .ok (.getfield 48, 3) := by decide +kernel
theorem dX3_takeOutFailed_20 : decode cX3_takeOutFailed 20 = .ok (.ifCond .ne 18, 3) := by decide +kernel
theorem dX3_takeOutFailed_23 : decode cX3_takeOutFailed 23 = .ok (.aload_n 0, 1) := by decide +kernel
theorem dX3_takeOutFailed_24 : decode cX3_takeOutFailed 24 = .ok (.getfield 26, 3) := by decide +kernel
theorem dX3_takeOutFailed_27 : decode cX3_takeOutFailed 27 = .ok (.iload_n 1, 1) := by decide +kernel
theorem dX3_takeOutFailed_28 : decode cX3_takeOutFailed 28 = .ok (.aload_n 0, 1) := by decide +kernel
theorem dX3_takeOutFailed_29 : decode cX3_takeOutFailed 29 = .ok (.getfield 26, 3) := by decide +kernel
theorem dX3_takeOutFailed_32 : decode cX3_takeOutFailed 32 = .ok (.iload_n 2, 1) := by decide +kernel
theorem dX3_takeOutFailed_33 : decode cX3_takeOutFailed 33 = .ok (.iaload, 1) := by decide +kernel
theorem dX3_takeOutFailed_34 : decode cX3_takeOutFailed 34 = .ok (.iastore, 1) := by decide +kernel
theorem dX3_takeOutFailed_35 : decode cX3_takeOutFailed 35 = .ok (.iinc 1 1, 3) := by decide +kernel
theorem dX3_takeOutFailed_38 : decode cX3_takeOutFailed 38 = .ok (.iinc 2 1, 3) := by decide +kernel
theorem dX3_takeOutFailed_41 : decode cX3_takeOutFailed 41 = .ok (.goto (-37), 3) := by decide +kernel
theorem dX3_takeOutFailed_44 : decode cX3_takeOutFailed 44 = .ok (.aload_n 0, 1) := by decide +kernel
theorem dX3_takeOutFailed_45 : decode cX3_takeOutFailed 45 = .ok (.iload_n 1, 1) := by decide +kernel
theorem dX3_takeOutFailed_46 : decode cX3_takeOutFailed 46 = .ok (.putfield 29, 3) := by decide +kernel
theorem dX3_takeOutFailed_49 : decode cX3_takeOutFailed 49 = .ok (.return_, 1) := by decide +kernel
set_option maxRecDepth 20000 in
theorem ggX3_canResyncAt_X3_isTailAt : GoodIn wsX3_canResyncAt wsX3_isTailAt := goodIn_r _ [5, 6, 21, 22, 23, 24, 25, 26] (by decide +kernel) (by decide +kernel)
set_option maxRecDepth 20000 in
theorem gX3_canResyncAt_X3_isTailAt : GoodIn wsX3_canResyncAt (wsV RX3 159 RX3 yX3_isTailAt wsX3_isTailAt) := goodIn_app (goodIn_of _ (by decide +kernel)) ggX3_canResyncAt_X3_isTailAt
set_option maxRecDepth 20000 in
theorem ggX3_canResyncAt_X3_nodeAt : GoodIn wsX3_canResyncAt wsX3_nodeAt := goodIn_r _ [10, 11, 12, 21, 22, 23, 24, 25, 26] (by decide +kernel) (by decide +kernel)
set_option maxRecDepth 20000 in
theorem gX3_canResyncAt_X3_nodeAt : GoodIn wsX3_canResyncAt (wsV RX3 44 RX3 yX3_nodeAt wsX3_nodeAt) := goodIn_app (goodIn_of _ (by decide +kernel)) ggX3_canResyncAt_X3_nodeAt
theorem dX3_canResyncAt_0 : decode cX3_canResyncAt 0 = .ok (.iload_n 1, 1) := by decide +kernel
theorem dX3_canResyncAt_1 : decode cX3_canResyncAt 1 = .ok (.iconst (-1), 1) := by decide +kernel
theorem dX3_canResyncAt_2 : decode cX3_canResyncAt 2 = .ok (.if_icmp .eq 11, 3) := by decide +kernel
theorem dX3_canResyncAt_5 : decode cX3_canResyncAt 5 = .ok (.aload_n 0, 1) := by decide +kernel
theorem dX3_canResyncAt_6 : decode cX3_canResyncAt 6 = .ok (.iload_n 1, 1) := by decide +kernel
theorem dX3_canResyncAt_7 : decode cX3_canResyncAt 7 = .ok (.invokevirtual 159, 3) := by decide +kernel
theorem dX3_canResyncAt_10 : decode cX3_canResyncAt 10 = .ok (.ifCond .eq 5, 3) := by decide +kernel
theorem dX3_canResyncAt_13 : decode cX3_canResyncAt 13 = .ok (.iconst 0, 1) := by decide +kernel
theorem dX3_canResyncAt_14 : decode cX3_canResyncAt 14 = .ok (.ireturn, 1) := by decide +kernel
theorem dX3_canResyncAt_15 : decode cX3_canResyncAt 15 = .ok (.aload_n 0, 1) := by decide +kernel
theorem dX3_canResyncAt_16 : decode cX3_canResyncAt 16 = .ok (.iload_n 1, 1) := by decide +kernel
theorem dX3_canResyncAt_17 : decode cX3_canResyncAt 17 = .ok (.invokevirtual 44, 3) := by decide +kernel
theorem dX3_canResyncAt_20 : decode cX3_canResyncAt 20 = .ok (.astore_n 2, 1) := by decide +kernel
theorem dX3_canResyncAt_21 : decode cX3_canResyncAt 21 = .ok (.aload_n 2, 1) := by decide +kernel
theorem dX3_canResyncAt_22 : decode cX3_canResyncAt 22 = .ok (.getfield 48, 3) := by decide +kernel
theorem dX3_canResyncAt_25 : decode cX3_canResyncAt 25 = .ok (.ifCond .ne 30, 3) := by decide +kernel
theorem dX3_canResyncAt_28 : decode cX3_canResyncAt 28 = .ok (.aload_n 0, 1) := by decide +kernel
theorem dX3_canResyncAt_29 : decode cX3_canResyncAt 29 = .ok (.iload_n 1, 1) := by decide +kernel
theorem dX3_canResyncAt_30 : decode cX3_canResyncAt 30 = .ok (.iconst 1, 1) := by decide +kernel
theorem dX3_canResyncAt_31 : decode cX3_canResyncAt 31 = .ok (.iadd, 1) := by decide +kernel
theorem dX3_canResyncAt_32 : decode cX3_canResyncAt 32 = .ok (.invokevirtual 44, 3) := by decide +kernel
theorem dX3_canResyncAt_35 : decode cX3_canResyncAt 35 = .ok (.getfield 48, 3) := by decide +kernel
theorem dX3_canResyncAt_38 : decode cX3_canResyncAt 38 = .ok (.ifCond .ne 17, 3) := by decide +kernel
theorem dX3_canResyncAt_41 : decode cX3_canResyncAt 41 = .ok (.aload_n 2, 1) := by decide +kernel
theorem dX3_canResyncAt_42 : decode cX3_canResyncAt 42 = .ok (.getfield 88, 3) := by decide +kernel
theorem dX3_canResyncAt_45 : decode cX3_canResyncAt 45 = .ok (.getfield 136, 3) := by decide +kernel
theorem dX3_canResyncAt_48 : decode cX3_canResyncAt 48 = .ok (.ifCond .ne 7, 3) := by decide +kernel
theorem dX3_canResyncAt_51 : decode cX3_canResyncAt 51 = .ok (.iconst 1, 1) := by decide +kernel
theorem dX3_canResyncAt_52 : decode cX3_canResyncAt 52 = .ok (.goto 4, 3) := by decide +kernel
theorem dX3_canResyncAt_55 : decode cX3_canResyncAt 55 = .ok (.iconst 0, 1) := by decide +kernel
theorem dX3_canResyncAt_56 : decode cX3_canResyncAt 56 = .ok (.ireturn, 1) := by decide +kernel
theorem dX4_init_0 : decode cX4_init 0 = .ok (.aload_n 0, 1) := by decide +kernel
theorem dX4_init_1 : decode cX4_init 1 = .ok (.invokespecial 1, 3) := by decide +kernel
theorem dX4_init_4 : decode cX4_init 4 = .ok (.aload_n 0, 1) := by decide +kernel
theorem dX4_init_5 : decode cX4_init 5 = .ok (.bipush 6, 2) := by decide +kernel
theorem dX4_init_7 : decode cX4_init 7 = .ok (.newarray .int, 2) := by decide +kernel
theorem dX4_init_9 : decode cX4_init 9 = .ok (.putfield 7, 3) := by decide +kernel
theorem dX4_init_12 : decode cX4_init 12 = .ok (.aload_n 0, 1) := by decide +kernel
theorem dX4_init_13 : decode cX4_init 13 = .ok (.bipush 6, 2) := by decide +kernel
theorem dX4_init_15 : decode cX4_init 15 = .ok (.newarray .boolean, 2) := by decide +kernel
theorem dX4_init_17 : decode cX4_init 17 = .ok (.putfield 13, 3) := by decide +kernel
theorem dX4_init_20 : decode cX4_init 20 = .ok (.aload_n 0, 1) := by decide +kernel
theorem dX4_init_21 : decode cX4_init 21 = .ok (.bipush 6, 2) := by decide +kernel
theorem dX4_init_23 : decode cX4_init 23 = .ok (.newarray .boolean, 2) := by decide +kernel
theorem dX4_init_25 : decode cX4_init 25 = .ok (.putfield 17, 3) := by decide +kernel
theorem dX4_init_28 : decode cX4_init 28 = .ok (.aload_n 0, 1) := by decide +kernel
theorem dX4_init_29 : decode cX4_init 29 = .ok (.bipush 6, 2) := by decide +kernel
theorem dX4_init_31 : decode cX4_init 31 = .ok (.newarray .int, 2) := by decide +kernel
theorem dX4_init_33 : decode cX4_init 33 = .ok (.putfield 20, 3) := by decide +kernel
theorem dX4_init_36 : decode cX4_init 36 = .ok (.aload_n 0, 1) := by decide +kernel
theorem dX4_init_37 : decode cX4_init 37 = .ok (.bipush 6, 2) := by decide +kernel
theorem dX4_init_39 : decode cX4_init 39 = .ok (.newarray .int, 2) := by decide +kernel
theorem dX4_init_41 : decode cX4_init 41 = .ok (.putfield 23, 3) := by decide +kernel
theorem dX4_init_44 : decode cX4_init 44 = .ok (.aload_n 0, 1) := by decide +kernel
theorem dX4_init_45 : decode cX4_init 45 = .ok (.sipush 246, 3) := by decide +kernel
theorem dX4_init_48 : decode cX4_init 48 = .ok (.newarray .int, 2) := by decide +kernel
theorem dX4_init_50 : decode cX4_init 50 = .ok (.putfield 26, 3) := by decide +kernel
theorem dX4_init_53 : decode cX4_init 53 = .ok (.aload_n 0, 1) := by decide +kernel
theorem dX4_init_54 : decode cX4_init 54 = .ok (.sipush 246, 3) := by decide +kernel
theorem dX4_init_57 : decode cX4_init 57 = .ok (.newarray .int, 2) := by decide +kernel
theorem dX4_init_59 : decode cX4_init 59 = .ok (.putfield 29, 3) := by decide +kernel
theorem dX4_init_62 : decode cX4_init 62 = .ok (.aload_n 0, 1) := by decide +kernel
theorem dX4_init_63 : decode cX4_init 63 = .ok (.iload_n 1, 1) := by decide +kernel
theorem dX4_init_64 : decode cX4_init 64 = .ok (.iconst 1, 1) := by decide +kernel
theorem dX4_init_65 : decode cX4_init 65 = .ok (.if_icmp .lt 9, 3) := by decide +kernel
theorem dX4_init_68 : decode cX4_init 68 = .ok (.iload_n 1, 1) := by decide +kernel
theorem dX4_init_69 : decode cX4_init 69 = .ok (.bipush 6, 2) := by decide +kernel
theorem dX4_init_71 : decode cX4_init 71 = .ok (.if_icmp .le 7, 3) := by decide +kernel
theorem dX4_init_74 : decode cX4_init 74 = .ok (.iconst 3, 1) := by decide +kernel
theorem dX4_init_75 : decode cX4_init 75 = .ok (.goto 4, 3) := by decide +kernel
theorem dX4_init_78 : decode cX4_init 78 = .ok (.iload_n 1, 1) := by decide +kernel
theorem dX4_init_79 : decode cX4_init 79 = .ok (.putfield 32, 3) := by decide +kernel
theorem dX4_init_82 : decode cX4_init 82 = .ok (.aload_n 0, 1) := by decide +kernel
theorem dX4_init_83 : decode cX4_init 83 = .ok (.aload_n 0, 1) := by decide +kernel
theorem dX4_init_84 : decode cX4_init 84 = .ok (.getfield 32, 3) := by decide +kernel
theorem dX4_init_87 : decode cX4_init 87 = .ok (.putfield 36, 3) := by decide +kernel
theorem dX4_init_90 : decode cX4_init 90 = .ok (.iconst 0, 1) := by decide +kernel
theorem dX4_init_91 : decode cX4_init 91 = .ok (.istore_n 2, 1) := by decide +kernel
theorem dX4_init_92 : decode cX4_init 92 = .ok (.iload_n 2, 1) := by decide +kernel
theorem dX4_init_93 : decode cX4_init 93 = .ok (.aload_n 0, 1) := by decide +kernel
theorem dX4_init_94 : decode cX4_init 94 = .ok (.getfield 36, 3) := by decide +kernel
theorem dX4_init_97 : decode cX4_init 97 = .ok (.if_icmp .ge 37, 3) := by decide +kernel
theorem dX4_init_100 : decode cX4_init 100 = .ok (.aload_n 0, 1) := by decide +kernel
theorem dX4_init_101 : decode cX4_init 101 = .ok (.getfield 7, 3) := by decide +kernel
theorem dX4_init_104 : decode cX4_init 104 = .ok (.iload_n 2, 1) := by decide +kernel
theorem dX4_init_105 : decode cX4_init 105 = .ok (.iload_n 2, 1) := by decide +kernel
theorem dX4_init_106 : decode cX4_init 106 = .ok (.iastore, 1) := by decide +kernel
theorem dX4_init_107 : decode cX4_init 107 = .ok (.aload_n 0, 1) := by decide +kernel
theorem dX4_init_108 : decode cX4_init 108 = .ok (.getfield 17, 3) := by decide +kernel
theorem dX4_init_111 : decode cX4_init 111 = .ok (.iload_n 2, 1) := by decide +kernel
theorem dX4_init_112 : decode cX4_init 112 = .ok (.iload_n 2, 1) := by decide +kernel
theorem dX4_init_113 : decode cX4_init 113 = .ok (.iconst 1, 1) := by decide +kernel
theorem dX4_init_114 : decode cX4_init 114 = .ok (.iadd, 1) := by decide +kernel
theorem dX4_init_115 : decode cX4_init 115 = .ok (.aload_n 0, 1) := by decide +kernel
theorem dX4_init_116 : decode cX4_init 116 = .ok (.getfield 36, 3) := by decide +kernel
theorem dX4_init_119 : decode cX4_init 119 = .ok (.if_icmp .ge 7, 3) := by decide +kernel
theorem dX4_init_122 : decode cX4_init 122 = .ok (.iconst 1, 1) := by decide +kernel
theorem dX4_init_123 : decode cX4_init 123 = .ok (.goto 4, 3) := by decide +kernel
theorem dX4_init_126 : decode cX4_init 126 = .ok (.iconst 0, 1) := by decide +kernel
theorem dX4_init_127 : decode cX4_init 127 = .ok (.bastore, 1) := by decide +kernel
theorem dX4_init_128 : decode cX4_init 128 = .ok (.iinc 2 1, 3) := by decide +kernel
theorem dX4_init_131 : decode cX4_init 131 = .ok (.goto (-39), 3) := by decide +kernel
theorem dX4_init_134 : decode cX4_init 134 = .ok (.return_, 1) := by decide +kernel
theorem dX4_thrown_0 : decode cX4_thrown 0 = .ok (.aload_n 0, 1) := by decide +kernel
theorem dX4_thrown_1 : decode cX4_thrown 1 = .ok (.getfield 39, 3) := by decide +kernel
theorem dX4_thrown_4 : decode cX4_thrown 4 = .ok (.ireturn, 1) := by decide +kernel
theorem dX4_throwsIt_0 : decode cX4_throwsIt 0 = .ok (.aload_n 0, 1) := by decide +kernel
theorem dX4_throwsIt_1 : decode cX4_throwsIt 1 = .ok (.iload_n 1, 1) := by decide +kernel
theorem dX4_throwsIt_2 : decode cX4_throwsIt 2 = .ok (.putfield 39, 3) := by decide +kernel
theorem dX4_throwsIt_5 : decode cX4_throwsIt 5 = .ok (.iload_n 1, 1) := by decide +kernel
theorem dX4_throwsIt_6 : decode cX4_throwsIt 6 = .ok (.ifCond .eq 7, 3) := by decide +kernel
theorem dX4_throwsIt_9 : decode cX4_throwsIt 9 = .ok (.iconst 1, 1) := by decide +kernel
theorem dX4_throwsIt_10 : decode cX4_throwsIt 10 = .ok (.goto 4, 3) := by decide +kernel
theorem dX4_throwsIt_13 : decode cX4_throwsIt 13 = .ok (.iconst 0, 1) := by decide +kernel
theorem dX4_throwsIt_14 : decode cX4_throwsIt 14 = .ok (.ireturn, 1) := by decide +kernel
theorem dX4_isNode_0 : decode cX4_isNode 0 = .ok (.iload_n 1, 1) := by decide +kernel
theorem dX4_isNode_1 : decode cX4_isNode 1 = .ok (.ifCond .lt 15, 3) := by decide +kernel
theorem dX4_isNode_4 : decode cX4_isNode 4 = .ok (.iload_n 1, 1) := by decide +kernel
theorem dX4_isNode_5 : decode cX4_isNode 5 = .ok (.aload_n 0, 1) := by decide +kernel
theorem dX4_isNode_6 : decode cX4_isNode 6 = .ok (.getfield 32, 3) := by decide +kernel
theorem dX4_isNode_9 : decode cX4_isNode 9 = .ok (.if_icmp .ge 7, 3) := by decide +kernel
theorem dX4_isNode_12 : decode cX4_isNode 12 = .ok (.iconst 1, 1) := by decide +kernel
theorem dX4_isNode_13 : decode cX4_isNode 13 = .ok (.goto 4, 3) := by decide +kernel
theorem dX4_isNode_16 : decode cX4_isNode 16 = .ok (.iconst 0, 1) := by decide +kernel
theorem dX4_isNode_17 : decode cX4_isNode 17 = .ok (.ireturn, 1) := by decide +kernel
theorem dX4_placeOf_0 : decode cX4_placeOf 0 = .ok (.iconst (-1), 1) := by decide +kernel
theorem dX4_placeOf_1 : decode cX4_placeOf 1 = .ok (.istore_n 2, 1) := by decide +kernel
theorem dX4_placeOf_2 : decode cX4_placeOf 2 = .ok (.iconst 0, 1) := by decide +kernel
theorem dX4_placeOf_3 : decode cX4_placeOf 3 = .ok (.istore_n 3, 1) := by decide +kernel
theorem dX4_placeOf_4 : decode cX4_placeOf 4 = .ok (.iload_n 3, 1) := by decide +kernel
theorem dX4_placeOf_5 : decode cX4_placeOf 5 = .ok (.aload_n 0, 1) := by decide +kernel
theorem dX4_placeOf_6 : decode cX4_placeOf 6 = .ok (.getfield 36, 3) := by decide +kernel
theorem dX4_placeOf_9 : decode cX4_placeOf 9 = .ok (.if_icmp .ge 25, 3) := by decide +kernel
theorem dX4_placeOf_12 : decode cX4_placeOf 12 = .ok (.aload_n 0, 1) := by decide +kernel
theorem dX4_placeOf_13 : decode cX4_placeOf 13 = .ok (.getfield 7, 3) := by decide +kernel
theorem dX4_placeOf_16 : decode cX4_placeOf 16 = .ok (.iload_n 3, 1) := by decide +kernel
theorem dX4_placeOf_17 : decode cX4_placeOf 17 = .ok (.iaload, 1) := by decide +kernel
theorem dX4_placeOf_18 : decode cX4_placeOf 18 = .ok (.iload_n 1, 1) := by decide +kernel
theorem dX4_placeOf_19 : decode cX4_placeOf 19 = .ok (.if_icmp .ne 7, 3) := by decide +kernel
theorem dX4_placeOf_22 : decode cX4_placeOf 22 = .ok (.iload_n 3, 1) := by decide +kernel
theorem dX4_placeOf_23 : decode cX4_placeOf 23 = .ok (.goto 4, 3) := by decide +kernel
theorem dX4_placeOf_26 : decode cX4_placeOf 26 = .ok (.iload_n 2, 1) := by decide +kernel
theorem dX4_placeOf_27 : decode cX4_placeOf 27 = .ok (.istore_n 2, 1) := by decide +kernel
theorem dX4_placeOf_28 : decode cX4_placeOf 28 = .ok (.iinc 3 1, 3) := by decide +kernel
theorem dX4_placeOf_31 : decode cX4_placeOf 31 = .ok (.goto (-27), 3) := by decide +kernel
theorem dX4_placeOf_34 : decode cX4_placeOf 34 = .ok (.iload_n 2, 1) := by decide +kernel
theorem dX4_placeOf_35 : decode cX4_placeOf 35 = .ok (.ireturn, 1) := by decide +kernel
theorem dX4_first_0 : decode cX4_first 0 = .ok (.aload_n 0, 1) := by decide +kernel
theorem dX4_first_1 : decode cX4_first 1 = .ok (.getfield 7, 3) := by decide +kernel
theorem dX4_first_4 : decode cX4_first 4 = .ok (.iconst 0, 1) := by decide +kernel
theorem dX4_first_5 : decode cX4_first 5 = .ok (.iaload, 1) := by decide +kernel
theorem dX4_first_6 : decode cX4_first 6 = .ok (.ireturn, 1) := by decide +kernel
theorem dX4_last_0 : decode cX4_last 0 = .ok (.aload_n 0, 1) := by decide +kernel
theorem dX4_last_1 : decode cX4_last 1 = .ok (.getfield 7, 3) := by decide +kernel
theorem dX4_last_4 : decode cX4_last 4 = .ok (.aload_n 0, 1) := by decide +kernel
theorem dX4_last_5 : decode cX4_last 5 = .ok (.getfield 36, 3) := by decide +kernel
theorem dX4_last_8 : decode cX4_last 8 = .ok (.iconst 1, 1) := by decide +kernel
theorem dX4_last_9 : decode cX4_last 9 = .ok (.isub, 1) := by decide +kernel
theorem dX4_last_10 : decode cX4_last 10 = .ok (.iaload, 1) := by decide +kernel
theorem dX4_last_11 : decode cX4_last 11 = .ok (.ireturn, 1) := by decide +kernel
set_option maxRecDepth 20000 in
theorem ggX4_updatesTo_X4_placeOf : GoodIn wsX4_updatesTo wsX4_placeOf := goodIn_r _ [8, 9, 2, 10, 11, 12, 13, 14, 15, 16, 17, 18, 19, 20] (by decide +kernel) (by decide +kernel)
set_option maxRecDepth 20000 in
theorem gX4_updatesTo_X4_placeOf : GoodIn wsX4_updatesTo (wsV RX4 42 RX4 yX4_placeOf wsX4_placeOf) := goodIn_app (goodIn_of _ (by decide +kernel)) ggX4_updatesTo_X4_placeOf
theorem dX4_updatesTo_0 : decode cX4_updatesTo 0 = .ok (.aload_n 0, 1) := by decide +kernel
theorem dX4_updatesTo_1 : decode cX4_updatesTo 1 = .ok (.iload_n 1, 1) := by decide +kernel
theorem dX4_updatesTo_2 : decode cX4_updatesTo 2 = .ok (.invokevirtual 42, 3) := by decide +kernel
theorem dX4_updatesTo_5 : decode cX4_updatesTo 5 = .ok (.istore_n 2, 1) := by decide +kernel
theorem dX4_updatesTo_6 : decode cX4_updatesTo 6 = .ok (.iload_n 2, 1) := by decide +kernel
theorem dX4_updatesTo_7 : decode cX4_updatesTo 7 = .ok (.ifCond .le 42, 3) := by decide +kernel
theorem dX4_updatesTo_10 : decode cX4_updatesTo 10 = .ok (.aload_n 0, 1) := by decide +kernel
theorem dX4_updatesTo_11 : decode cX4_updatesTo 11 = .ok (.getfield 17, 3) := by decide +kernel
theorem dX4_updatesTo_14 : decode cX4_updatesTo 14 = .ok (.aload_n 0, 1) := by decide +kernel
theorem dX4_updatesTo_15 : decode cX4_updatesTo 15 = .ok (.getfield 7, 3) := by decide +kernel
theorem dX4_updatesTo_18 : decode cX4_updatesTo 18 = .ok (.iload_n 2, 1) := by decide +kernel
theorem dX4_updatesTo_19 : decode cX4_updatesTo 19 = .ok (.iconst 1, 1) := by decide +kernel
theorem dX4_updatesTo_20 : decode cX4_updatesTo 20 = .ok (.isub, 1) := by decide +kernel
theorem dX4_updatesTo_21 : decode cX4_updatesTo 21 = .ok (.iaload, 1) := by decide +kernel
theorem dX4_updatesTo_22 : decode cX4_updatesTo 22 = .ok (.baload, 1) := by decide +kernel
theorem dX4_updatesTo_23 : decode cX4_updatesTo 23 = .ok (.ifCond .eq 26, 3) := by decide +kernel
theorem dX4_updatesTo_26 : decode cX4_updatesTo 26 = .ok (.aload_n 0, 1) := by decide +kernel
theorem dX4_updatesTo_27 : decode cX4_updatesTo 27 = .ok (.getfield 20, 3) := by decide +kernel
theorem dX4_updatesTo_30 : decode cX4_updatesTo 30 = .ok (.aload_n 0, 1) := by decide +kernel
theorem dX4_updatesTo_31 : decode cX4_updatesTo 31 = .ok (.getfield 7, 3) := by decide +kernel
theorem dX4_updatesTo_34 : decode cX4_updatesTo 34 = .ok (.iload_n 2, 1) := by decide +kernel
theorem dX4_updatesTo_35 : decode cX4_updatesTo 35 = .ok (.iconst 1, 1) := by decide +kernel
theorem dX4_updatesTo_36 : decode cX4_updatesTo 36 = .ok (.isub, 1) := by decide +kernel
theorem dX4_updatesTo_37 : decode cX4_updatesTo 37 = .ok (.iaload, 1) := by decide +kernel
theorem dX4_updatesTo_38 : decode cX4_updatesTo 38 = .ok (.iaload, 1) := by decide +kernel
theorem dX4_updatesTo_39 : decode cX4_updatesTo 39 = .ok (.aload_n 0, 1) := by decide +kernel
theorem dX4_updatesTo_40 : decode cX4_updatesTo 40 = .ok (.getfield 20, 3) := by decide +kernel
theorem dX4_updatesTo_43 : decode cX4_updatesTo 43 = .ok (.iload_n 1, 1) := by decide +kernel
theorem dX4_updatesTo_44 : decode cX4_updatesTo 44 = .ok (.iaload, 1) := by decide +kernel
theorem dX4_updatesTo_45 : decode cX4_updatesTo 45 = .ok (.isub, 1) := by decide +kernel
theorem dX4_updatesTo_46 : decode cX4_updatesTo 46 = .ok (.goto 4, 3) := by decide +kernel
theorem dX4_updatesTo_49 : decode cX4_updatesTo 49 = .ok (.iconst 0, 1) := by decide +kernel
theorem dX4_updatesTo_50 : decode cX4_updatesTo 50 = .ok (.ireturn, 1) := by decide +kernel
set_option maxRecDepth 20000 in
theorem ggX4_acksTo_X4_placeOf : GoodIn wsX4_acksTo wsX4_placeOf := goodIn_r _ [9, 1, 4, 10, 11, 12, 13, 14, 15, 16, 17, 18, 19, 20] (by decide +kernel) (by decide +kernel)
set_option maxRecDepth 20000 in
theorem gX4_acksTo_X4_placeOf : GoodIn wsX4_acksTo (wsV RX4 42 RX4 yX4_placeOf wsX4_placeOf) := goodIn_app (goodIn_of _ (by decide +kernel)) ggX4_acksTo_X4_placeOf
theorem dX4_acksTo_0 : decode cX4_acksTo 0 = .ok (.aload_n 0, 1) := by decide +kernel
theorem dX4_acksTo_1 : decode cX4_acksTo 1 = .ok (.iload_n 1, 1) := by decide +kernel
theorem dX4_acksTo_2 : decode cX4_acksTo 2 = .ok (.invokevirtual 42, 3) := by decide +kernel
theorem dX4_acksTo_5 : decode cX4_acksTo 5 = .ok (.istore_n 2, 1) := by decide +kernel
theorem dX4_acksTo_6 : decode cX4_acksTo 6 = .ok (.iload_n 2, 1) := by decide +kernel
theorem dX4_acksTo_7 : decode cX4_acksTo 7 = .ok (.ifCond .lt 45, 3) := by decide +kernel
theorem dX4_acksTo_10 : decode cX4_acksTo 10 = .ok (.iload_n 2, 1) := by decide +kernel
theorem dX4_acksTo_11 : decode cX4_acksTo 11 = .ok (.aload_n 0, 1) := by decide +kernel
theorem dX4_acksTo_12 : decode cX4_acksTo 12 = .ok (.getfield 36, 3) := by decide +kernel
theorem dX4_acksTo_15 : decode cX4_acksTo 15 = .ok (.iconst 1, 1) := by decide +kernel
theorem dX4_acksTo_16 : decode cX4_acksTo 16 = .ok (.isub, 1) := by decide +kernel
theorem dX4_acksTo_17 : decode cX4_acksTo 17 = .ok (.if_icmp .ge 35, 3) := by decide +kernel
theorem dX4_acksTo_20 : decode cX4_acksTo 20 = .ok (.aload_n 0, 1) := by decide +kernel
theorem dX4_acksTo_21 : decode cX4_acksTo 21 = .ok (.getfield 17, 3) := by decide +kernel
theorem dX4_acksTo_24 : decode cX4_acksTo 24 = .ok (.iload_n 1, 1) := by decide +kernel
theorem dX4_acksTo_25 : decode cX4_acksTo 25 = .ok (.baload, 1) := by decide +kernel
theorem dX4_acksTo_26 : decode cX4_acksTo 26 = .ok (.ifCond .eq 26, 3) := by decide +kernel
theorem dX4_acksTo_29 : decode cX4_acksTo 29 = .ok (.aload_n 0, 1) := by decide +kernel
theorem dX4_acksTo_30 : decode cX4_acksTo 30 = .ok (.getfield 23, 3) := by decide +kernel
theorem dX4_acksTo_33 : decode cX4_acksTo 33 = .ok (.aload_n 0, 1) := by decide +kernel
theorem dX4_acksTo_34 : decode cX4_acksTo 34 = .ok (.getfield 7, 3) := by decide +kernel
theorem dX4_acksTo_37 : decode cX4_acksTo 37 = .ok (.iload_n 2, 1) := by decide +kernel
theorem dX4_acksTo_38 : decode cX4_acksTo 38 = .ok (.iconst 1, 1) := by decide +kernel
theorem dX4_acksTo_39 : decode cX4_acksTo 39 = .ok (.iadd, 1) := by decide +kernel
theorem dX4_acksTo_40 : decode cX4_acksTo 40 = .ok (.iaload, 1) := by decide +kernel
theorem dX4_acksTo_41 : decode cX4_acksTo 41 = .ok (.iaload, 1) := by decide +kernel
theorem dX4_acksTo_42 : decode cX4_acksTo 42 = .ok (.aload_n 0, 1) := by decide +kernel
theorem dX4_acksTo_43 : decode cX4_acksTo 43 = .ok (.getfield 23, 3) := by decide +kernel
theorem dX4_acksTo_46 : decode cX4_acksTo 46 = .ok (.iload_n 1, 1) := by decide +kernel
theorem dX4_acksTo_47 : decode cX4_acksTo 47 = .ok (.iaload, 1) := by decide +kernel
theorem dX4_acksTo_48 : decode cX4_acksTo 48 = .ok (.isub, 1) := by decide +kernel
theorem dX4_acksTo_49 : decode cX4_acksTo 49 = .ok (.goto 4, 3) := by decide +kernel
theorem dX4_acksTo_52 : decode cX4_acksTo 52 = .ok (.iconst 0, 1) := by decide +kernel
theorem dX4_acksTo_53 : decode cX4_acksTo 53 = .ok (.ireturn, 1) := by decide +kernel
set_option maxRecDepth 20000 in
theorem ggX4_apply_X4_last : GoodIn wsX4_apply wsX4_last := goodIn_r _ [10, 11, 12, 13, 14, 15, 16, 17, 18, 19, 20, 21, 22, 23] (by decide +kernel) (by decide +kernel)
set_option maxRecDepth 20000 in
theorem gX4_apply_X4_last : GoodIn wsX4_apply (wsV RX4 46 RX4 yX4_last wsX4_last) := goodIn_app (goodIn_of _ (by decide +kernel)) ggX4_apply_X4_last
theorem dX4_apply_0 : decode cX4_apply 0 = .ok (.aload_n 0, 1) := by decide +kernel
theorem dX4_apply_1 : decode cX4_apply 1 = .ok (.getfield 20, 3) := by decide +kernel
theorem dX4_apply_4 : decode cX4_apply 4 = .ok (.iload_n 1, 1) := by decide +kernel
theorem dX4_apply_5 : decode cX4_apply 5 = .ok (.dup2, 1) := by decide +kernel
theorem dX4_apply_6 : decode cX4_apply 6 = .ok (.iaload, 1) := by decide +kernel
theorem dX4_apply_7 : decode cX4_apply 7 = .ok (.iconst 1, 1) := by decide +kernel
theorem dX4_apply_8 : decode cX4_apply 8 = .ok (.iadd, 1) := by decide +kernel
theorem dX4_apply_9 : decode cX4_apply 9 = .ok (.iastore, 1) := by decide +kernel
theorem dX4_apply_10 : decode cX4_apply 10 = .ok (.aload_n 0, 1) := by decide +kernel
theorem dX4_apply_11 : decode cX4_apply 11 = .ok (.getfield 26, 3) := by decide +kernel
theorem dX4_apply_14 : decode cX4_apply 14 = .ok (.bipush 41, 2) := by decide +kernel
theorem dX4_apply_16 : decode cX4_apply 16 = .ok (.iload_n 1, 1) := by decide +kernel
theorem dX4_apply_17 : decode cX4_apply 17 = .ok (.imul, 1) := by decide +kernel
theorem dX4_apply_18 : decode cX4_apply 18 = .ok (.aload_n 0, 1) := by decide +kernel
theorem dX4_apply_19 : decode cX4_apply 19 = .ok (.getfield 20, 3) := by decide +kernel
theorem dX4_apply_22 : decode cX4_apply 22 = .ok (.iload_n 1, 1) := by decide +kernel
theorem dX4_apply_23 : decode cX4_apply 23 = .ok (.iaload, 1) := by decide +kernel
theorem dX4_apply_24 : decode cX4_apply 24 = .ok (.iadd, 1) := by decide +kernel
theorem dX4_apply_25 : decode cX4_apply 25 = .ok (.iload_n 2, 1) := by decide +kernel
theorem dX4_apply_26 : decode cX4_apply 26 = .ok (.iastore, 1) := by decide +kernel
theorem dX4_apply_27 : decode cX4_apply 27 = .ok (.aload_n 0, 1) := by decide +kernel
theorem dX4_apply_28 : decode cX4_apply 28 = .ok (.getfield 29, 3) := by decide +kernel
theorem dX4_apply_31 : decode cX4_apply 31 = .ok (.bipush 41, 2) := by decide +kernel
theorem dX4_apply_33 : decode cX4_apply 33 = .ok (.iload_n 1, 1) := by decide +kernel
theorem dX4_apply_34 : decode cX4_apply 34 = .ok (.imul, 1) := by decide +kernel
theorem dX4_apply_35 : decode cX4_apply 35 = .ok (.aload_n 0, 1) := by decide +kernel
theorem dX4_apply_36 : decode cX4_apply 36 = .ok (.getfield 20, 3) := by decide +kernel
theorem dX4_apply_39 : decode cX4_apply 39 = .ok (.iload_n 1, 1) := by decide +kernel
theorem dX4_apply_40 : decode cX4_apply 40 = .ok (.iaload, 1) := by decide +kernel
theorem dX4_apply_41 : decode cX4_apply 41 = .ok (.iadd, 1) := by decide +kernel
theorem dX4_apply_42 : decode cX4_apply 42 = .ok (.iload_n 3, 1) := by decide +kernel
theorem dX4_apply_43 : decode cX4_apply 43 = .ok (.iastore, 1) := by decide +kernel
theorem dX4_apply_44 : decode cX4_apply 44 = .ok (.iload_n 1, 1) := by decide +kernel
theorem dX4_apply_45 : decode cX4_apply 45 = .ok (.aload_n 0, 1) := by decide +kernel
theorem dX4_apply_46 : decode cX4_apply 46 = .ok (.invokevirtual 46, 3) := by decide +kernel
theorem dX4_apply_49 : decode cX4_apply 49 = .ok (.if_icmp .ne 25, 3) := by decide +kernel
theorem dX4_apply_52 : decode cX4_apply 52 = .ok (.aload_n 0, 1) := by decide +kernel
theorem dX4_apply_53 : decode cX4_apply 53 = .ok (.getfield 23, 3) := by decide +kernel
theorem dX4_apply_56 : decode cX4_apply 56 = .ok (.iload_n 1, 1) := by decide +kernel
theorem dX4_apply_57 : decode cX4_apply 57 = .ok (.aload_n 0, 1) := by decide +kernel
theorem dX4_apply_58 : decode cX4_apply 58 = .ok (.getfield 20, 3) := by decide +kernel
theorem dX4_apply_61 : decode cX4_apply 61 = .ok (.iload_n 1, 1) := by decide +kernel
theorem dX4_apply_62 : decode cX4_apply 62 = .ok (.iaload, 1) := by decide +kernel
theorem dX4_apply_63 : decode cX4_apply 63 = .ok (.iastore, 1) := by decide +kernel
theorem dX4_apply_64 : decode cX4_apply 64 = .ok (.aload_n 0, 1) := by decide +kernel
theorem dX4_apply_65 : decode cX4_apply 65 = .ok (.aload_n 0, 1) := by decide +kernel
theorem dX4_apply_66 : decode cX4_apply 66 = .ok (.getfield 20, 3) := by decide +kernel
theorem dX4_apply_69 : decode cX4_apply 69 = .ok (.iload_n 1, 1) := by decide +kernel
theorem dX4_apply_70 : decode cX4_apply 70 = .ok (.iaload, 1) := by decide +kernel
theorem dX4_apply_71 : decode cX4_apply 71 = .ok (.putfield 50, 3) := by decide +kernel
theorem dX4_apply_74 : decode cX4_apply 74 = .ok (.return_, 1) := by decide +kernel
theorem dX4_valueOf_0 : decode cX4_valueOf 0 = .ok (.iconst 0, 1) := by decide +kernel
theorem dX4_valueOf_1 : decode cX4_valueOf 1 = .ok (.istore_n 3, 1) := by decide +kernel
theorem dX4_valueOf_2 : decode cX4_valueOf 2 = .ok (.iconst 1, 1) := by decide +kernel
theorem dX4_valueOf_3 : decode cX4_valueOf 3 = .ok (.istore 4, 2) := by decide +kernel
theorem dX4_valueOf_5 : decode cX4_valueOf 5 = .ok (.iload 4, 2) := by decide +kernel
theorem dX4_valueOf_7 : decode cX4_valueOf 7 = .ok (.aload_n 0, 1) := by decide +kernel
theorem dX4_valueOf_8 : decode cX4_valueOf 8 = .ok (.getfield 20, 3) := by decide +kernel
theorem dX4_valueOf_11 : decode cX4_valueOf 11 = .ok (.iload_n 1, 1) := by decide +kernel
theorem dX4_valueOf_12 : decode cX4_valueOf 12 = .ok (.iaload, 1) := by decide +kernel
theorem dX4_valueOf_13 : decode cX4_valueOf 13 = .ok (.if_icmp .gt 42, 3) := by decide +kernel
theorem dX4_valueOf_16 : decode cX4_valueOf 16 = .ok (.aload_n 0, 1) := by decide +kernel
theorem dX4_valueOf_17 : decode cX4_valueOf 17 = .ok (.getfield 26, 3) := by decide +kernel
theorem dX4_valueOf_20 : decode cX4_valueOf 20 = .ok (.bipush 41, 2) := by decide +kernel
theorem dX4_valueOf_22 : decode cX4_valueOf 22 = .ok (.iload_n 1, 1) := by decide +kernel
theorem dX4_valueOf_23 : decode cX4_valueOf 23 = .ok (.imul, 1) := by decide +kernel
theorem dX4_valueOf_24 : decode cX4_valueOf 24 = .ok (.iload 4, 2) := by decide +kernel
theorem dX4_valueOf_26 : decode cX4_valueOf 26 = .ok (.iadd, 1) := by decide +kernel
theorem dX4_valueOf_27 : decode cX4_valueOf 27 = .ok (.iaload, 1) := by decide +kernel
theorem dX4_valueOf_28 : decode cX4_valueOf 28 = .ok (.iload_n 2, 1) := by decide +kernel
theorem dX4_valueOf_29 : decode cX4_valueOf 29 = .ok (.if_icmp .ne 18, 3) := by decide +kernel
theorem dX4_valueOf_32 : decode cX4_valueOf 32 = .ok (.aload_n 0, 1) := by decide +kernel
theorem dX4_valueOf_33 : decode cX4_valueOf 33 = .ok (.getfield 29, 3) := by decide +kernel
theorem dX4_valueOf_36 : decode cX4_valueOf 36 = .ok (.bipush 41, 2) := by decide +kernel
theorem dX4_valueOf_38 : decode cX4_valueOf 38 = .ok (.iload_n 1, 1) := by decide +kernel
theorem dX4_valueOf_39 : decode cX4_valueOf 39 = .ok (.imul, 1) := by decide +kernel
theorem dX4_valueOf_40 : decode cX4_valueOf 40 = .ok (.iload 4, 2) := by decide +kernel
theorem dX4_valueOf_42 : decode cX4_valueOf 42 = .ok (.iadd, 1) := by decide +kernel
theorem dX4_valueOf_43 : decode cX4_valueOf 43 = .ok (.iaload, 1) := by decide +kernel
theorem dX4_valueOf_44 : decode cX4_valueOf 44 = .ok (.goto 4, 3) := by decide +kernel
theorem dX4_valueOf_47 : decode cX4_valueOf 47 = .ok (.iload_n 3, 1) := by decide +kernel
theorem dX4_valueOf_48 : decode cX4_valueOf 48 = .ok (.istore_n 3, 1) := by decide +kernel
theorem dX4_valueOf_49 : decode cX4_valueOf 49 = .ok (.iinc 4 1, 3) := by decide +kernel
theorem dX4_valueOf_52 : decode cX4_valueOf 52 = .ok (.goto (-47), 3) := by decide +kernel
theorem dX4_valueOf_55 : decode cX4_valueOf 55 = .ok (.iload_n 3, 1) := by decide +kernel
theorem dX4_valueOf_56 : decode cX4_valueOf 56 = .ok (.ireturn, 1) := by decide +kernel
set_option maxRecDepth 20000 in
theorem ggX4_write_X4_first : GoodIn wsX4_write wsX4_first := goodIn_r _ [7, 8, 27, 28, 29, 30, 31, 32, 33, 34, 35, 36, 37] (by decide +kernel) (by decide +kernel)
set_option maxRecDepth 20000 in
theorem gX4_write_X4_first : GoodIn wsX4_write (wsV RX4 53 RX4 yX4_first wsX4_first) := goodIn_app (goodIn_of _ (by decide +kernel)) ggX4_write_X4_first
set_option maxRecDepth 20000 in
theorem ggX4_write_X4_throwsIt : GoodIn wsX4_write wsX4_throwsIt := goodIn_r _ [12, 13, 27, 28, 29, 30, 31, 32, 33, 34, 35, 36, 37] (by decide +kernel) (by decide +kernel)
set_option maxRecDepth 20000 in
theorem gX4_write_X4_throwsIt : GoodIn wsX4_write (wsV RX4 56 RX4 yX4_throwsIt wsX4_throwsIt) := goodIn_app (goodIn_of _ (by decide +kernel)) ggX4_write_X4_throwsIt
set_option maxRecDepth 20000 in
theorem ggX4_write_X4_apply : GoodIn wsX4_write wsX4_apply := goodIn_r _ [17, 2, 18, 19, 20, 21, 22, 23, 24, 6, 25, 8, 26, 27, 28, 29, 30, 31, 32, 33, 34, 35, 36, 37] (by decide +kernel) (by decide +kernel)
set_option maxRecDepth 20000 in
theorem gX4_write_X4_apply : GoodIn wsX4_write (wsV RX4 60 RX4 yX4_apply wsX4_apply) := goodIn_app (goodIn_of _ (by decide +kernel)) ggX4_write_X4_apply
theorem dX4_write_0 : decode cX4_write 0 = .ok (.aload_n 0, 1) := by decide +kernel
theorem dX4_write_1 : decode cX4_write 1 = .ok (.invokevirtual 53, 3) := by decide +kernel
theorem dX4_write_4 : decode cX4_write 4 = .ok (.istore_n 3, 1) := by decide +kernel
theorem dX4_write_5 : decode cX4_write 5 = .ok (.aload_n 0, 1) := by decide +kernel
theorem dX4_write_6 : decode cX4_write 6 = .ok (.iload_n 1, 1) := by decide +kernel
theorem dX4_write_7 : decode cX4_write 7 = .ok (.ifCond .lt 9, 3) := by decide +kernel
theorem dX4_write_10 : decode cX4_write 10 = .ok (.iload_n 1, 1) := by decide +kernel
theorem dX4_write_11 : decode cX4_write 11 = .ok (.bipush 7, 2) := by decide +kernel
theorem dX4_write_13 : decode cX4_write 13 = .ok (.if_icmp .le 7, 3) := by decide +kernel
theorem dX4_write_16 : decode cX4_write 16 = .ok (.iconst 1, 1) := by decide +kernel
theorem dX4_write_17 : decode cX4_write 17 = .ok (.goto 28, 3) := by decide +kernel
theorem dX4_write_20 : decode cX4_write 20 = .ok (.aload_n 0, 1) := by decide +kernel
theorem dX4_write_21 : decode cX4_write 21 = .ok (.getfield 13, 3) := by decide +kernel
theorem dX4_write_24 : decode cX4_write 24 = .ok (.iload_n 3, 1) := by decide +kernel
theorem dX4_write_25 : decode cX4_write 25 = .ok (.baload, 1) := by decide +kernel
theorem dX4_write_26 : decode cX4_write 26 = .ok (.ifCond .ne 14, 3) := by decide +kernel
theorem dX4_write_29 : decode cX4_write 29 = .ok (.aload_n 0, 1) := by decide +kernel
theorem dX4_write_30 : decode cX4_write 30 = .ok (.getfield 20, 3) := by decide +kernel
theorem dX4_write_33 : decode cX4_write 33 = .ok (.iload_n 3, 1) := by decide +kernel
theorem dX4_write_34 : decode cX4_write 34 = .ok (.iaload, 1) := by decide +kernel
theorem dX4_write_35 : decode cX4_write 35 = .ok (.bipush 40, 2) := by decide +kernel
theorem dX4_write_37 : decode cX4_write 37 = .ok (.if_icmp .ne 7, 3) := by decide +kernel
theorem dX4_write_40 : decode cX4_write 40 = .ok (.iconst 2, 1) := by decide +kernel
theorem dX4_write_41 : decode cX4_write 41 = .ok (.goto 4, 3) := by decide +kernel
theorem dX4_write_44 : decode cX4_write 44 = .ok (.iconst 0, 1) := by decide +kernel
theorem dX4_write_45 : decode cX4_write 45 = .ok (.invokevirtual 56, 3) := by decide +kernel
theorem dX4_write_48 : decode cX4_write 48 = .ok (.ifCond .eq 5, 3) := by decide +kernel
theorem dX4_write_51 : decode cX4_write 51 = .ok (.iconst 0, 1) := by decide +kernel
theorem dX4_write_52 : decode cX4_write 52 = .ok (.ireturn, 1) := by decide +kernel
theorem dX4_write_53 : decode cX4_write 53 = .ok (.aload_n 0, 1) := by decide +kernel
theorem dX4_write_54 : decode cX4_write 54 = .ok (.iload_n 3, 1) := by decide +kernel
theorem dX4_write_55 : decode cX4_write 55 = .ok (.iload_n 1, 1) := by decide +kernel
theorem dX4_write_56 : decode cX4_write 56 = .ok (.iload_n 2, 1) := by decide +kernel
theorem dX4_write_57 : decode cX4_write 57 = .ok (.invokevirtual 60, 3) := by decide +kernel
theorem dX4_write_60 : decode cX4_write 60 = .ok (.aload_n 0, 1) := by decide +kernel
theorem dX4_write_61 : decode cX4_write 61 = .ok (.getfield 20, 3) := by decide +kernel
theorem dX4_write_64 : decode cX4_write 64 = .ok (.iload_n 3, 1) := by decide +kernel
theorem dX4_write_65 : decode cX4_write 65 = .ok (.iaload, 1) := by decide +kernel
theorem dX4_write_66 : decode cX4_write 66 = .ok (.ireturn, 1) := by decide +kernel
set_option maxRecDepth 20000 in
theorem ggX4_read_X4_last : GoodIn wsX4_read wsX4_last := goodIn_r _ [6, 7, 8, 21, 22, 23, 24, 25, 26, 27, 28, 29, 30, 31] (by decide +kernel) (by decide +kernel)
set_option maxRecDepth 20000 in
theorem gX4_read_X4_last : GoodIn wsX4_read (wsV RX4 46 RX4 yX4_last wsX4_last) := goodIn_app (goodIn_of _ (by decide +kernel)) ggX4_read_X4_last
set_option maxRecDepth 20000 in
theorem ggX4_read_X4_throwsIt : GoodIn wsX4_read wsX4_throwsIt := goodIn_r _ [12, 13, 21, 22, 23, 24, 25, 26, 27, 28, 29, 30, 31] (by decide +kernel) (by decide +kernel)
set_option maxRecDepth 20000 in
theorem gX4_read_X4_throwsIt : GoodIn wsX4_read (wsV RX4 56 RX4 yX4_throwsIt wsX4_throwsIt) := goodIn_app (goodIn_of _ (by decide +kernel)) ggX4_read_X4_throwsIt
set_option maxRecDepth 20000 in
theorem ggX4_read_X4_valueOf : GoodIn wsX4_read wsX4_valueOf := goodIn_r _ [17, 18, 19, 20, 21, 22, 23, 24, 25, 26, 27, 28, 29, 30, 31] (by decide +kernel) (by decide +kernel)
set_option maxRecDepth 20000 in
theorem gX4_read_X4_valueOf : GoodIn wsX4_read (wsV RX4 64 RX4 yX4_valueOf wsX4_valueOf) := goodIn_app (goodIn_of _ (by decide +kernel)) ggX4_read_X4_valueOf
theorem dX4_read_0 : decode cX4_read 0 = .ok (.aload_n 0, 1) := by decide +kernel
theorem dX4_read_1 : decode cX4_read 1 = .ok (.invokevirtual 46, 3) := by decide +kernel
theorem dX4_read_4 : decode cX4_read 4 = .ok (.istore_n 2, 1) := by decide +kernel
theorem dX4_read_5 : decode cX4_read 5 = .ok (.aload_n 0, 1) := by decide +kernel
theorem dX4_read_6 : decode cX4_read 6 = .ok (.iload_n 1, 1) := by decide +kernel
theorem dX4_read_7 : decode cX4_read 7 = .ok (.ifCond .lt 9, 3) := by decide +kernel
theorem dX4_read_10 : decode cX4_read 10 = .ok (.iload_n 1, 1) := by decide +kernel
theorem dX4_read_11 : decode cX4_read 11 = .ok (.bipush 7, 2) := by decide +kernel
theorem dX4_read_13 : decode cX4_read 13 = .ok (.if_icmp .le 7, 3) := by decide +kernel
theorem dX4_read_16 : decode cX4_read 16 = .ok (.iconst 1, 1) := by decide +kernel
theorem dX4_read_17 : decode cX4_read 17 = .ok (.goto 17, 3) := by decide +kernel
theorem dX4_read_20 : decode cX4_read 20 = .ok (.aload_n 0, 1) := by decide +kernel
theorem dX4_read_21 : decode cX4_read 21 = .ok (.getfield 13, 3) := by decide +kernel
theorem dX4_read_24 : decode cX4_read 24 = .ok (.iload_n 2, 1) := by decide +kernel
theorem dX4_read_25 : decode cX4_read 25 = .ok (.baload, 1) := by decide +kernel
theorem dX4_read_26 : decode cX4_read 26 = .ok (.ifCond .eq 7, 3) := by decide +kernel
theorem dX4_read_29 : decode cX4_read 29 = .ok (.iconst 2, 1) := by decide +kernel
theorem dX4_read_30 : decode cX4_read 30 = .ok (.goto 4, 3) := by decide +kernel
theorem dX4_read_33 : decode cX4_read 33 = .ok (.iconst 0, 1) := by decide +kernel
theorem dX4_read_34 : decode cX4_read 34 = .ok (.invokevirtual 56, 3) := by decide +kernel
theorem dX4_read_37 : decode cX4_read 37 = .ok (.ifCond .eq 5, 3) := by decide +kernel
theorem dX4_read_40 : decode cX4_read 40 = .ok (.iconst 0, 1) := by decide +kernel
theorem dX4_read_41 : decode cX4_read 41 = .ok (.ireturn, 1) := by decide +kernel
theorem dX4_read_42 : decode cX4_read 42 = .ok (.aload_n 0, 1) := by decide +kernel
theorem dX4_read_43 : decode cX4_read 43 = .ok (.iload_n 2, 1) := by decide +kernel
theorem dX4_read_44 : decode cX4_read 44 = .ok (.iload_n 1, 1) := by decide +kernel
theorem dX4_read_45 : decode cX4_read 45 = .ok (.invokevirtual 64, 3) := by decide +kernel
theorem dX4_read_48 : decode cX4_read 48 = .ok (.ireturn, 1) := by decide +kernel
set_option maxRecDepth 20000 in
theorem ggX4_deliver_X4_isNode : GoodIn wsX4_deliver wsX4_isNode := goodIn_r _ [10, 11, 37, 38, 39, 40, 41, 42, 43, 44, 45, 46, 47] (by decide +kernel) (by decide +kernel)
set_option maxRecDepth 20000 in
theorem gX4_deliver_X4_isNode : GoodIn wsX4_deliver (wsV RX4 68 RX4 yX4_isNode wsX4_isNode) := goodIn_app (goodIn_of _ (by decide +kernel)) ggX4_deliver_X4_isNode
set_option maxRecDepth 20000 in
theorem ggX4_deliver_X4_updatesTo : GoodIn wsX4_deliver wsX4_updatesTo := goodIn_r _ [15, 16, 2, 3, 17, 18, 19, 9, 20, 21, 37, 38, 39, 40, 41, 42, 43, 44, 45, 46, 47] (by decide +kernel) (by decide +kernel)
set_option maxRecDepth 20000 in
theorem gX4_deliver_X4_updatesTo : GoodIn wsX4_deliver (wsV RX4 71 RX4 yX4_updatesTo wsX4_updatesTo) := goodIn_app (goodIn_of _ (by decide +kernel)) ggX4_deliver_X4_updatesTo
set_option maxRecDepth 20000 in
theorem ggX4_deliver_X4_throwsIt : GoodIn wsX4_deliver wsX4_throwsIt := goodIn_r _ [25, 26, 37, 38, 39, 40, 41, 42, 43, 44, 45, 46, 47] (by decide +kernel) (by decide +kernel)
set_option maxRecDepth 20000 in
theorem gX4_deliver_X4_throwsIt : GoodIn wsX4_deliver (wsV RX4 56 RX4 yX4_throwsIt wsX4_throwsIt) := goodIn_app (goodIn_of _ (by decide +kernel)) ggX4_deliver_X4_throwsIt
set_option maxRecDepth 20000 in
theorem ggX4_deliver_X4_placeOf : GoodIn wsX4_deliver wsX4_placeOf := goodIn_r _ [20, 21, 2, 37, 38, 39, 40, 41, 42, 43, 44, 45, 46, 47] (by decide +kernel) (by decide +kernel)
set_option maxRecDepth 20000 in
theorem gX4_deliver_X4_placeOf : GoodIn wsX4_deliver (wsV RX4 42 RX4 yX4_placeOf wsX4_placeOf) := goodIn_app (goodIn_of _ (by decide +kernel)) ggX4_deliver_X4_placeOf
set_option maxRecDepth 20000 in
theorem ggX4_deliver_X4_apply : GoodIn wsX4_deliver wsX4_apply := goodIn_r _ [30, 3, 4, 5, 31, 32, 33, 34, 35, 9, 36, 2, 21, 37, 38, 39, 40, 41, 42, 43, 44, 45, 46, 47] (by decide +kernel) (by decide +kernel)
set_option maxRecDepth 20000 in
theorem gX4_deliver_X4_apply : GoodIn wsX4_deliver (wsV RX4 60 RX4 yX4_apply wsX4_apply) := goodIn_app (goodIn_of _ (by decide +kernel)) ggX4_deliver_X4_apply
theorem dX4_deliver_0 : decode cX4_deliver 0 = .ok (.aload_n 0, 1) := by decide +kernel
theorem dX4_deliver_1 : decode cX4_deliver 1 = .ok (.aload_n 0, 1) := by decide +kernel
theorem dX4_deliver_2 : decode cX4_deliver 2 = .ok (.iload_n 1, 1) := by decide +kernel
theorem dX4_deliver_3 : decode cX4_deliver 3 = .ok (.invokevirtual 68, 3) := by decide +kernel
theorem dX4_deliver_6 : decode cX4_deliver 6 = .ok (.ifCond .ne 7, 3) := by decide +kernel
theorem dX4_deliver_9 : decode cX4_deliver 9 = .ok (.iconst 1, 1) := by decide +kernel
theorem dX4_deliver_10 : decode cX4_deliver 10 = .ok (.goto 29, 3) := by decide +kernel
theorem dX4_deliver_13 : decode cX4_deliver 13 = .ok (.aload_n 0, 1) := by decide +kernel
theorem dX4_deliver_14 : decode cX4_deliver 14 = .ok (.getfield 13, 3) := by decide +kernel
theorem dX4_deliver_17 : decode cX4_deliver 17 = .ok (.iload_n 1, 1) := by decide +kernel
theorem dX4_deliver_18 : decode cX4_deliver 18 = .ok (.baload, 1) := by decide +kernel
theorem dX4_deliver_19 : decode cX4_deliver 19 = .ok (.ifCond .eq 7, 3) := by decide +kernel
theorem dX4_deliver_22 : decode cX4_deliver 22 = .ok (.iconst 2, 1) := by decide +kernel
theorem dX4_deliver_23 : decode cX4_deliver 23 = .ok (.goto 16, 3) := by decide +kernel
theorem dX4_deliver_26 : decode cX4_deliver 26 = .ok (.aload_n 0, 1) := by decide +kernel
theorem dX4_deliver_27 : decode cX4_deliver 27 = .ok (.iload_n 1, 1) := by decide +kernel
theorem dX4_deliver_28 : decode cX4_deliver 28 = .ok (.invokevirtual 71, 3) := by decide +kernel
theorem dX4_deliver_31 : decode cX4_deliver 31 = .ok (.ifCond .ne 7, 3) := by decide +kernel
theorem dX4_deliver_34 : decode cX4_deliver 34 = .ok (.iconst 3, 1) := by decide +kernel
theorem dX4_deliver_35 : decode cX4_deliver 35 = .ok (.goto 4, 3) := by decide +kernel
theorem dX4_deliver_38 : decode cX4_deliver 38 = .ok (.iconst 0, 1) := by decide +kernel
theorem dX4_deliver_39 : decode cX4_deliver 39 = .ok (.invokevirtual 56, 3) := by decide +kernel
theorem dX4_deliver_42 : decode cX4_deliver 42 = .ok (.ifCond .eq 5, 3) := by decide +kernel
theorem dX4_deliver_45 : decode cX4_deliver 45 = .ok (.iconst 0, 1) := by decide +kernel
theorem dX4_deliver_46 : decode cX4_deliver 46 = .ok (.ireturn, 1) := by decide +kernel
theorem dX4_deliver_47 : decode cX4_deliver 47 = .ok (.aload_n 0, 1) := by decide +kernel
theorem dX4_deliver_48 : decode cX4_deliver 48 = .ok (.iload_n 1, 1) := by decide +kernel
theorem dX4_deliver_49 : decode cX4_deliver 49 = .ok (.invokevirtual 42, 3) := by decide +kernel
theorem dX4_deliver_52 : decode cX4_deliver 52 = .ok (.istore_n 2, 1) := by decide +kernel
theorem dX4_deliver_53 : decode cX4_deliver 53 = .ok (.bipush 41, 2) := by decide +kernel
theorem dX4_deliver_55 : decode cX4_deliver 55 = .ok (.aload_n 0, 1) := by decide +kernel
theorem dX4_deliver_56 : decode cX4_deliver 56 = .ok (.getfield 7, 3) := by decide +kernel
theorem dX4_deliver_59 : decode cX4_deliver 59 = .ok (.iload_n 2, 1) := by decide +kernel
theorem dX4_deliver_60 : decode cX4_deliver 60 = .ok (.iconst 1, 1) := by decide +kernel
theorem dX4_deliver_61 : decode cX4_deliver 61 = .ok (.isub, 1) := by decide +kernel
theorem dX4_deliver_62 : decode cX4_deliver 62 = .ok (.iaload, 1) := by decide +kernel
theorem dX4_deliver_63 : decode cX4_deliver 63 = .ok (.imul, 1) := by decide +kernel
theorem dX4_deliver_64 : decode cX4_deliver 64 = .ok (.aload_n 0, 1) := by decide +kernel
theorem dX4_deliver_65 : decode cX4_deliver 65 = .ok (.getfield 20, 3) := by decide +kernel
theorem dX4_deliver_68 : decode cX4_deliver 68 = .ok (.iload_n 1, 1) := by decide +kernel
theorem dX4_deliver_69 : decode cX4_deliver 69 = .ok (.iaload, 1) := by decide +kernel
theorem dX4_deliver_70 : decode cX4_deliver 70 = .ok (.iadd, 1) := by decide +kernel
theorem dX4_deliver_71 : decode cX4_deliver 71 = .ok (.iconst 1, 1) := by decide +kernel
theorem dX4_deliver_72 : decode cX4_deliver 72 = .ok (.iadd, 1) := by decide +kernel
theorem dX4_deliver_73 : decode cX4_deliver 73 = .ok (.istore_n 3, 1) := by decide +kernel
theorem dX4_deliver_74 : decode cX4_deliver 74 = .ok (.aload_n 0, 1) := by decide +kernel
theorem dX4_deliver_75 : decode cX4_deliver 75 = .ok (.iload_n 1, 1) := by decide +kernel
theorem dX4_deliver_76 : decode cX4_deliver 76 = .ok (.aload_n 0, 1) := by decide +kernel
theorem dX4_deliver_77 : decode cX4_deliver 77 = .ok (.getfield 26, 3) := by decide +kernel
theorem dX4_deliver_80 : decode cX4_deliver 80 = .ok (.iload_n 3, 1) := by decide +kernel
theorem dX4_deliver_81 : decode cX4_deliver 81 = .ok (.iaload, 1) := by decide +kernel
theorem dX4_deliver_82 : decode cX4_deliver 82 = .ok (.aload_n 0, 1) := by decide +kernel
theorem dX4_deliver_83 : decode cX4_deliver 83 = .ok (.getfield 29, 3) := by decide +kernel
theorem dX4_deliver_86 : decode cX4_deliver 86 = .ok (.iload_n 3, 1) := by decide +kernel
theorem dX4_deliver_87 : decode cX4_deliver 87 = .ok (.iaload, 1) := by decide +kernel
theorem dX4_deliver_88 : decode cX4_deliver 88 = .ok (.invokevirtual 60, 3) := by decide +kernel
theorem dX4_deliver_91 : decode cX4_deliver 91 = .ok (.aload_n 0, 1) := by decide +kernel
theorem dX4_deliver_92 : decode cX4_deliver 92 = .ok (.getfield 20, 3) := by decide +kernel
theorem dX4_deliver_95 : decode cX4_deliver 95 = .ok (.iload_n 1, 1) := by decide +kernel
theorem dX4_deliver_96 : decode cX4_deliver 96 = .ok (.iaload, 1) := by decide +kernel
theorem dX4_deliver_97 : decode cX4_deliver 97 = .ok (.ireturn, 1) := by decide +kernel
set_option maxRecDepth 20000 in
theorem ggX4_acknowledge_X4_isNode : GoodIn wsX4_acknowledge wsX4_isNode := goodIn_r _ [7, 8, 25, 26, 27, 28, 29, 30, 31, 32, 33, 34, 35] (by decide +kernel) (by decide +kernel)
set_option maxRecDepth 20000 in
theorem gX4_acknowledge_X4_isNode : GoodIn wsX4_acknowledge (wsV RX4 68 RX4 yX4_isNode wsX4_isNode) := goodIn_app (goodIn_of _ (by decide +kernel)) ggX4_acknowledge_X4_isNode
set_option maxRecDepth 20000 in
theorem ggX4_acknowledge_X4_acksTo : GoodIn wsX4_acknowledge wsX4_acksTo := goodIn_r _ [12, 13, 14, 2, 15, 16, 17, 18, 6, 19, 25, 26, 27, 28, 29, 30, 31, 32, 33, 34, 35] (by decide +kernel) (by decide +kernel)
set_option maxRecDepth 20000 in
theorem gX4_acknowledge_X4_acksTo : GoodIn wsX4_acknowledge (wsV RX4 74 RX4 yX4_acksTo wsX4_acksTo) := goodIn_app (goodIn_of _ (by decide +kernel)) ggX4_acknowledge_X4_acksTo
set_option maxRecDepth 20000 in
theorem ggX4_acknowledge_X4_throwsIt : GoodIn wsX4_acknowledge wsX4_throwsIt := goodIn_r _ [23, 24, 25, 26, 27, 28, 29, 30, 31, 32, 33, 34, 35] (by decide +kernel) (by decide +kernel)
set_option maxRecDepth 20000 in
theorem gX4_acknowledge_X4_throwsIt : GoodIn wsX4_acknowledge (wsV RX4 56 RX4 yX4_throwsIt wsX4_throwsIt) := goodIn_app (goodIn_of _ (by decide +kernel)) ggX4_acknowledge_X4_throwsIt
theorem dX4_acknowledge_0 : decode cX4_acknowledge 0 = .ok (.aload_n 0, 1) := by decide +kernel
theorem dX4_acknowledge_1 : decode cX4_acknowledge 1 = .ok (.aload_n 0, 1) := by decide +kernel
theorem dX4_acknowledge_2 : decode cX4_acknowledge 2 = .ok (.iload_n 1, 1) := by decide +kernel
theorem dX4_acknowledge_3 : decode cX4_acknowledge 3 = .ok (.invokevirtual 68, 3) := by decide +kernel
theorem dX4_acknowledge_6 : decode cX4_acknowledge 6 = .ok (.ifCond .ne 7, 3) := by decide +kernel
theorem dX4_acknowledge_9 : decode cX4_acknowledge 9 = .ok (.iconst 1, 1) := by decide +kernel
theorem dX4_acknowledge_10 : decode cX4_acknowledge 10 = .ok (.goto 29, 3) := by decide +kernel
theorem dX4_acknowledge_13 : decode cX4_acknowledge 13 = .ok (.aload_n 0, 1) := by decide +kernel
theorem dX4_acknowledge_14 : decode cX4_acknowledge 14 = .ok (.getfield 13, 3) := by decide +kernel
theorem dX4_acknowledge_17 : decode cX4_acknowledge 17 = .ok (.iload_n 1, 1) := by decide +kernel
theorem dX4_acknowledge_18 : decode cX4_acknowledge 18 = .ok (.baload, 1) := by decide +kernel
theorem dX4_acknowledge_19 : decode cX4_acknowledge 19 = .ok (.ifCond .eq 7, 3) := by decide +kernel
theorem dX4_acknowledge_22 : decode cX4_acknowledge 22 = .ok (.iconst 2, 1) := by decide +kernel
theorem dX4_acknowledge_23 : decode cX4_acknowledge 23 = .ok (.goto 16, 3) := by decide +kernel
theorem dX4_acknowledge_26 : decode cX4_acknowledge 26 = .ok (.aload_n 0, 1) := by decide +kernel
theorem dX4_acknowledge_27 : decode cX4_acknowledge 27 = .ok (.iload_n 1, 1) := by decide +kernel
theorem dX4_acknowledge_28 : decode cX4_acknowledge 28 = .ok (.invokevirtual 74, 3) := by decide +kernel
theorem dX4_acknowledge_31 : decode cX4_acknowledge 31 = .ok (.ifCond .ne 7, 3) := by decide +kernel
theorem dX4_acknowledge_34 : decode cX4_acknowledge 34 = .ok (.iconst 3, 1) := by decide +kernel
theorem dX4_acknowledge_35 : decode cX4_acknowledge 35 = .ok (.goto 4, 3) := by decide +kernel
theorem dX4_acknowledge_38 : decode cX4_acknowledge 38 = .ok (.iconst 0, 1) := by decide +kernel
theorem dX4_acknowledge_39 : decode cX4_acknowledge 39 = .ok (.invokevirtual 56, 3) := by decide +kernel
theorem dX4_acknowledge_42 : decode cX4_acknowledge 42 = .ok (.ifCond .eq 5, 3) := by decide +kernel
theorem dX4_acknowledge_45 : decode cX4_acknowledge 45 = .ok (.iconst 0, 1) := by decide +kernel
theorem dX4_acknowledge_46 : decode cX4_acknowledge 46 = .ok (.ireturn, 1) := by decide +kernel
theorem dX4_acknowledge_47 : decode cX4_acknowledge 47 = .ok (.aload_n 0, 1) := by decide +kernel
theorem dX4_acknowledge_48 : decode cX4_acknowledge 48 = .ok (.getfield 23, 3) := by decide +kernel
theorem dX4_acknowledge_51 : decode cX4_acknowledge 51 = .ok (.iload_n 1, 1) := by decide +kernel
theorem dX4_acknowledge_52 : decode cX4_acknowledge 52 = .ok (.dup2, 1) := by decide +kernel
theorem dX4_acknowledge_53 : decode cX4_acknowledge 53 = .ok (.iaload, 1) := by decide +kernel
theorem dX4_acknowledge_54 : decode cX4_acknowledge 54 = .ok (.iconst 1, 1) := by decide +kernel
theorem dX4_acknowledge_55 : decode cX4_acknowledge 55 = .ok (.iadd, 1) := by decide +kernel
theorem dX4_acknowledge_56 : decode cX4_acknowledge 56 = .ok (.iastore, 1) := by decide +kernel
theorem dX4_acknowledge_57 : decode cX4_acknowledge 57 = .ok (.aload_n 0, 1) := by decide +kernel
theorem dX4_acknowledge_58 : decode cX4_acknowledge 58 = .ok (.getfield 23, 3) := by decide +kernel
theorem dX4_acknowledge_61 : decode cX4_acknowledge 61 = .ok (.iload_n 1, 1) := by decide +kernel
theorem dX4_acknowledge_62 : decode cX4_acknowledge 62 = .ok (.iaload, 1) := by decide +kernel
theorem dX4_acknowledge_63 : decode cX4_acknowledge 63 = .ok (.ireturn, 1) := by decide +kernel
set_option maxRecDepth 20000 in
theorem ggX4_fail_X4_isNode : GoodIn wsX4_fail wsX4_isNode := goodIn_r _ [9, 1, 20, 21, 22, 23, 24, 25, 26, 27, 28, 29, 30] (by decide +kernel) (by decide +kernel)
set_option maxRecDepth 20000 in
theorem gX4_fail_X4_isNode : GoodIn wsX4_fail (wsV RX4 68 RX4 yX4_isNode wsX4_isNode) := goodIn_app (goodIn_of _ (by decide +kernel)) ggX4_fail_X4_isNode
set_option maxRecDepth 20000 in
theorem ggX4_fail_X4_throwsIt : GoodIn wsX4_fail wsX4_throwsIt := goodIn_r _ [13, 14, 20, 21, 22, 23, 24, 25, 26, 27, 28, 29, 30] (by decide +kernel) (by decide +kernel)
set_option maxRecDepth 20000 in
theorem gX4_fail_X4_throwsIt : GoodIn wsX4_fail (wsV RX4 56 RX4 yX4_throwsIt wsX4_throwsIt) := goodIn_app (goodIn_of _ (by decide +kernel)) ggX4_fail_X4_throwsIt
set_option maxRecDepth 20000 in
theorem ggX4_fail_X4_placeOf : GoodIn wsX4_fail wsX4_placeOf := goodIn_r _ [18, 19, 4, 20, 21, 22, 23, 24, 25, 26, 27, 28, 29, 30] (by decide +kernel) (by decide +kernel)
set_option maxRecDepth 20000 in
theorem gX4_fail_X4_placeOf : GoodIn wsX4_fail (wsV RX4 42 RX4 yX4_placeOf wsX4_placeOf) := goodIn_app (goodIn_of _ (by decide +kernel)) ggX4_fail_X4_placeOf
theorem dX4_fail_0 : decode cX4_fail 0 = .ok (.aload_n 0, 1) := by decide +kernel
theorem dX4_fail_1 : decode cX4_fail 1 = .ok (.aload_n 0, 1) := by decide +kernel
theorem dX4_fail_2 : decode cX4_fail 2 = .ok (.iload_n 1, 1) := by decide +kernel
theorem dX4_fail_3 : decode cX4_fail 3 = .ok (.invokevirtual 68, 3) := by decide +kernel
theorem dX4_fail_6 : decode cX4_fail 6 = .ok (.ifCond .eq 7, 3) := by decide +kernel
theorem dX4_fail_9 : decode cX4_fail 9 = .ok (.iconst 0, 1) := by decide +kernel
theorem dX4_fail_10 : decode cX4_fail 10 = .ok (.goto 4, 3) := by decide +kernel
theorem dX4_fail_13 : decode cX4_fail 13 = .ok (.iconst 1, 1) := by decide +kernel
theorem dX4_fail_14 : decode cX4_fail 14 = .ok (.invokevirtual 56, 3) := by decide +kernel
theorem dX4_fail_17 : decode cX4_fail 17 = .ok (.ifCond .eq 5, 3) := by decide +kernel
theorem dX4_fail_20 : decode cX4_fail 20 = .ok (.iconst 0, 1) := by decide +kernel
theorem dX4_fail_21 : decode cX4_fail 21 = .ok (.ireturn, 1) := by decide +kernel
theorem dX4_fail_22 : decode cX4_fail 22 = .ok (.iconst 0, 1) := by decide +kernel
theorem dX4_fail_23 : decode cX4_fail 23 = .ok (.istore_n 2, 1) := by decide +kernel
theorem dX4_fail_24 : decode cX4_fail 24 = .ok (.iconst 0, 1) := by decide +kernel
theorem dX4_fail_25 : decode cX4_fail 25 = .ok (.istore_n 3, 1) := by decide +kernel
theorem dX4_fail_26 : decode cX4_fail 26 = .ok (.iload_n 3, 1) := by decide +kernel
theorem dX4_fail_27 : decode cX4_fail 27 = .ok (.aload_n 0, 1) := by decide +kernel
theorem dX4_fail_28 : decode cX4_fail 28 = .ok (.getfield 32, 3) := by decide +kernel
theorem dX4_fail_31 : decode cX4_fail 31 = .ok (.if_icmp .ge 26, 3) := by decide +kernel
theorem dX4_fail_34 : decode cX4_fail 34 = .ok (.aload_n 0, 1) := by decide +kernel
theorem dX4_fail_35 : decode cX4_fail 35 = .ok (.getfield 13, 3) := by decide +kernel
theorem dX4_fail_38 : decode cX4_fail 38 = .ok (.iload_n 3, 1) := by decide +kernel
theorem dX4_fail_39 : decode cX4_fail 39 = .ok (.baload, 1) := by decide +kernel
theorem dX4_fail_40 : decode cX4_fail 40 = .ok (.ifCond .eq 7, 3) := by decide +kernel
theorem dX4_fail_43 : decode cX4_fail 43 = .ok (.iload_n 2, 1) := by decide +kernel
theorem dX4_fail_44 : decode cX4_fail 44 = .ok (.goto 6, 3) := by decide +kernel
theorem dX4_fail_47 : decode cX4_fail 47 = .ok (.iload_n 2, 1) := by decide +kernel
theorem dX4_fail_48 : decode cX4_fail 48 = .ok (.iconst 1, 1) := by decide +kernel
theorem dX4_fail_49 : decode cX4_fail 49 = .ok (.iadd, 1) := by decide +kernel
theorem dX4_fail_50 : decode cX4_fail 50 = .ok (.istore_n 2, 1) := by decide +kernel
theorem dX4_fail_51 : decode cX4_fail 51 = .ok (.iinc 3 1, 3) := by decide +kernel
theorem dX4_fail_54 : decode cX4_fail 54 = .ok (.goto (-28), 3) := by decide +kernel
theorem dX4_fail_57 : decode cX4_fail 57 = .ok (.aload_n 0, 1) := by decide +kernel
theorem dX4_fail_58 : decode cX4_fail 58 = .ok (.getfield 13, 3) := by decide +kernel
theorem dX4_fail_61 : decode cX4_fail 61 = .ok (.iload_n 1, 1) := by decide +kernel
theorem dX4_fail_62 : decode cX4_fail 62 = .ok (.baload, 1) := by decide +kernel
theorem dX4_fail_63 : decode cX4_fail 63 = .ok (.ifCond .ne 8, 3) := by decide +kernel
theorem dX4_fail_66 : decode cX4_fail 66 = .ok (.iload_n 2, 1) := by decide +kernel
theorem dX4_fail_67 : decode cX4_fail 67 = .ok (.iconst 1, 1) := by decide +kernel
theorem dX4_fail_68 : decode cX4_fail 68 = .ok (.if_icmp .ne 5, 3) := by decide +kernel
theorem dX4_fail_71 : decode cX4_fail 71 = .ok (.iconst 0, 1) := by decide +kernel
theorem dX4_fail_72 : decode cX4_fail 72 = .ok (.ireturn, 1) := by decide +kernel
theorem dX4_fail_73 : decode cX4_fail 73 = .ok (.aload_n 0, 1) := by decide +kernel
theorem dX4_fail_74 : decode cX4_fail 74 = .ok (.getfield 13, 3) := by decide +kernel
theorem dX4_fail_77 : decode cX4_fail 77 = .ok (.iload_n 1, 1) := by decide +kernel
theorem dX4_fail_78 : decode cX4_fail 78 = .ok (.iconst 1, 1) := by decide +kernel
theorem dX4_fail_79 : decode cX4_fail 79 = .ok (.bastore, 1) := by decide +kernel
theorem dX4_fail_80 : decode cX4_fail 80 = .ok (.aload_n 0, 1) := by decide +kernel
theorem dX4_fail_81 : decode cX4_fail 81 = .ok (.getfield 17, 3) := by decide +kernel
theorem dX4_fail_84 : decode cX4_fail 84 = .ok (.iload_n 1, 1) := by decide +kernel
theorem dX4_fail_85 : decode cX4_fail 85 = .ok (.iconst 0, 1) := by decide +kernel
theorem dX4_fail_86 : decode cX4_fail 86 = .ok (.bastore, 1) := by decide +kernel
theorem dX4_fail_87 : decode cX4_fail 87 = .ok (.aload_n 0, 1) := by decide +kernel
theorem dX4_fail_88 : decode cX4_fail 88 = .ok (.iload_n 1, 1) := by decide +kernel
theorem dX4_fail_89 : decode cX4_fail 89 = .ok (.invokevirtual 42, 3) := by decide +kernel
theorem dX4_fail_92 : decode cX4_fail 92 = .ok (.istore_n 3, 1) := by decide +kernel
theorem dX4_fail_93 : decode cX4_fail 93 = .ok (.iload_n 3, 1) := by decide +kernel
theorem dX4_fail_94 : decode cX4_fail 94 = .ok (.ifCond .le 17, 3) := by decide +kernel
theorem dX4_fail_97 : decode cX4_fail 97 = .ok (.aload_n 0, 1) := by decide +kernel
theorem dX4_fail_98 : decode cX4_fail 98 = .ok (.getfield 17, 3) := by decide +kernel
theorem dX4_fail_101 : decode cX4_fail 101 = .ok (.aload_n 0, 1) := by decide +kernel
theorem dX4_fail_102 : decode cX4_fail 102 = .ok (.getfield 7, 3) := by decide +kernel
theorem dX4_fail_105 : decode cX4_fail 105 = .ok (.iload_n 3, 1) := by decide +kernel
theorem dX4_fail_106 : decode cX4_fail 106 = .ok (.iconst 1, 1) := by decide +kernel
theorem dX4_fail_107 : decode cX4_fail 107 = .ok (.isub, 1) := by decide +kernel
theorem dX4_fail_108 : decode cX4_fail 108 = .ok (.iaload, 1) := by decide +kernel
theorem dX4_fail_109 : decode cX4_fail 109 = .ok (.iconst 0, 1) := by decide +kernel
theorem dX4_fail_110 : decode cX4_fail 110 = .ok (.bastore, 1) := by decide +kernel
theorem dX4_fail_111 : decode cX4_fail 111 = .ok (.iconst 1, 1) := by decide +kernel
theorem dX4_fail_112 : decode cX4_fail 112 = .ok (.ireturn, 1) := by decide +kernel
set_option maxRecDepth 20000 in
theorem ggX4_repair_X4_last : GoodIn wsX4_repair wsX4_last := goodIn_r _ [12, 4, 2, 13, 14, 15, 16, 17, 18, 19, 20, 21, 22, 23] (by decide +kernel) (by decide +kernel)
set_option maxRecDepth 20000 in
theorem gX4_repair_X4_last : GoodIn wsX4_repair (wsV RX4 46 RX4 yX4_last wsX4_last) := goodIn_app (goodIn_of _ (by decide +kernel)) ggX4_repair_X4_last
theorem dX4_repair_0 : decode cX4_repair 0 = .ok (.aload_n 0, 1) := by decide +kernel
theorem dX4_repair_1 : decode cX4_repair 1 = .ok (.iconst 0, 1) := by decide +kernel
theorem dX4_repair_2 : decode cX4_repair 2 = .ok (.putfield 39, 3) := by decide +kernel
theorem dX4_repair_5 : decode cX4_repair 5 = .ok (.aload_n 0, 1) := by decide +kernel
theorem dX4_repair_6 : decode cX4_repair 6 = .ok (.invokevirtual 46, 3) := by decide +kernel
theorem dX4_repair_9 : decode cX4_repair 9 = .ok (.istore_n 1, 1) := by decide +kernel
theorem dX4_repair_10 : decode cX4_repair 10 = .ok (.iconst 0, 1) := by decide +kernel
theorem dX4_repair_11 : decode cX4_repair 11 = .ok (.istore_n 2, 1) := by decide +kernel
theorem dX4_repair_12 : decode cX4_repair 12 = .ok (.iconst 0, 1) := by decide +kernel
theorem dX4_repair_13 : decode cX4_repair 13 = .ok (.istore_n 3, 1) := by decide +kernel
theorem dX4_repair_14 : decode cX4_repair 14 = .ok (.iload_n 3, 1) := by decide +kernel
theorem dX4_repair_15 : decode cX4_repair 15 = .ok (.aload_n 0, 1) := by decide +kernel
theorem dX4_repair_16 : decode cX4_repair 16 = .ok (.getfield 36, 3) := by decide +kernel
theorem dX4_repair_19 : decode cX4_repair 19 = .ok (.if_icmp .ge 38, 3) := by decide +kernel
theorem dX4_repair_22 : decode cX4_repair 22 = .ok (.aload_n 0, 1) := by decide +kernel
theorem dX4_repair_23 : decode cX4_repair 23 = .ok (.getfield 13, 3) := by decide +kernel
theorem dX4_repair_26 : decode cX4_repair 26 = .ok (.aload_n 0, 1) := by decide +kernel
theorem dX4_repair_27 : decode cX4_repair 27 = .ok (.getfield 7, 3) := by decide +kernel
theorem dX4_repair_30 : decode cX4_repair 30 = .ok (.iload_n 3, 1) := by decide +kernel
theorem dX4_repair_31 : decode cX4_repair 31 = .ok (.iaload, 1) := by decide +kernel
theorem dX4_repair_32 : decode cX4_repair 32 = .ok (.baload, 1) := by decide +kernel
theorem dX4_repair_33 : decode cX4_repair 33 = .ok (.ifCond .ne 18, 3) := by decide +kernel
theorem dX4_repair_36 : decode cX4_repair 36 = .ok (.aload_n 0, 1) := by decide +kernel
theorem dX4_repair_37 : decode cX4_repair 37 = .ok (.getfield 7, 3) := by decide +kernel
theorem dX4_repair_40 : decode cX4_repair 40 = .ok (.iload_n 2, 1) := by decide +kernel
theorem dX4_repair_41 : decode cX4_repair 41 = .ok (.aload_n 0, 1) := by decide +kernel
theorem dX4_repair_42 : decode cX4_repair 42 = .ok (.getfield 7, 3) := by decide +kernel
theorem dX4_repair_45 : decode cX4_repair 45 = .ok (.iload_n 3, 1) := by decide +kernel
theorem dX4_repair_46 : decode cX4_repair 46 = .ok (.iaload, 1) := by decide +kernel
theorem dX4_repair_47 : decode cX4_repair 47 = .ok (.iastore, 1) := by decide +kernel
theorem dX4_repair_48 : decode cX4_repair 48 = .ok (.iinc 2 1, 3) := by decide +kernel
theorem dX4_repair_51 : decode cX4_repair 51 = .ok (.iinc 3 1, 3) := by decide +kernel
theorem dX4_repair_54 : decode cX4_repair 54 = .ok (.goto (-40), 3) := by decide +kernel
theorem dX4_repair_57 : decode cX4_repair 57 = .ok (.aload_n 0, 1) := by decide +kernel
theorem dX4_repair_58 : decode cX4_repair 58 = .ok (.getfield 36, 3) := by decide +kernel
theorem dX4_repair_61 : decode cX4_repair 61 = .ok (.iload_n 2, 1) := by decide +kernel
theorem dX4_repair_62 : decode cX4_repair 62 = .ok (.isub, 1) := by decide +kernel
theorem dX4_repair_63 : decode cX4_repair 63 = .ok (.istore_n 3, 1) := by decide +kernel
theorem dX4_repair_64 : decode cX4_repair 64 = .ok (.aload_n 0, 1) := by decide +kernel
theorem dX4_repair_65 : decode cX4_repair 65 = .ok (.iload_n 2, 1) := by decide +kernel
theorem dX4_repair_66 : decode cX4_repair 66 = .ok (.putfield 36, 3) := by decide +kernel
theorem dX4_repair_69 : decode cX4_repair 69 = .ok (.aload_n 0, 1) := by decide +kernel
theorem dX4_repair_70 : decode cX4_repair 70 = .ok (.invokevirtual 46, 3) := by decide +kernel
theorem dX4_repair_73 : decode cX4_repair 73 = .ok (.istore 4, 2) := by decide +kernel
theorem dX4_repair_75 : decode cX4_repair 75 = .ok (.iload 4, 2) := by decide +kernel
theorem dX4_repair_77 : decode cX4_repair 77 = .ok (.iload_n 1, 1) := by decide +kernel
theorem dX4_repair_78 : decode cX4_repair 78 = .ok (.if_icmp .eq 45, 3) := by decide +kernel
theorem dX4_repair_81 : decode cX4_repair 81 = .ok (.aload_n 0, 1) := by decide +kernel
theorem dX4_repair_82 : decode cX4_repair 82 = .ok (.getfield 23, 3) := by decide +kernel
theorem dX4_repair_85 : decode cX4_repair 85 = .ok (.iload 4, 2) := by decide +kernel
theorem dX4_repair_87 : decode cX4_repair 87 = .ok (.iaload, 1) := by decide +kernel
theorem dX4_repair_88 : decode cX4_repair 88 = .ok (.aload_n 0, 1) := by decide +kernel
theorem dX4_repair_89 : decode cX4_repair 89 = .ok (.getfield 20, 3) := by decide +kernel
theorem dX4_repair_92 : decode cX4_repair 92 = .ok (.iload 4, 2) := by decide +kernel
theorem dX4_repair_94 : decode cX4_repair 94 = .ok (.iaload, 1) := by decide +kernel
theorem dX4_repair_95 : decode cX4_repair 95 = .ok (.if_icmp .ge 28, 3) := by decide +kernel
theorem dX4_repair_98 : decode cX4_repair 98 = .ok (.aload_n 0, 1) := by decide +kernel
theorem dX4_repair_99 : decode cX4_repair 99 = .ok (.getfield 23, 3) := by decide +kernel
theorem dX4_repair_102 : decode cX4_repair 102 = .ok (.iload 4, 2) := by decide +kernel
theorem dX4_repair_104 : decode cX4_repair 104 = .ok (.aload_n 0, 1) := by decide +kernel
theorem dX4_repair_105 : decode cX4_repair 105 = .ok (.getfield 20, 3) := by decide +kernel
theorem dX4_repair_108 : decode cX4_repair 108 = .ok (.iload 4, 2) := by decide +kernel
theorem dX4_repair_110 : decode cX4_repair 110 = .ok (.iaload, 1) := by decide +kernel
theorem dX4_repair_111 : decode cX4_repair 111 = .ok (.iastore, 1) := by decide +kernel
theorem dX4_repair_112 : decode cX4_repair 112 = .ok (.aload_n 0, 1) := by decide +kernel
theorem dX4_repair_113 : decode cX4_repair 113 = .ok (.aload_n 0, 1) := by decide +kernel
theorem dX4_repair_114 : decode cX4_repair 114 = .ok (.getfield 20, 3) := by decide +kernel
theorem dX4_repair_117 : decode cX4_repair 117 = .ok (.iload 4, 2) := by decide +kernel
theorem dX4_repair_119 : decode cX4_repair 119 = .ok (.iaload, 1) := by decide +kernel
theorem dX4_repair_120 : decode cX4_repair 120 = .ok (.putfield 50, 3) := by decide +kernel
theorem dX4_repair_123 : decode cX4_repair 123 = .ok (.iload_n 3, 1) := by decide +kernel
theorem dX4_repair_124 : decode cX4_repair 124 = .ok (.ireturn, 1) := by decide +kernel
set_option maxRecDepth 20000 in
theorem ggX4_resync_X4_isNode : GoodIn wsX4_resync wsX4_isNode := goodIn_r _ [10, 11, 21, 22, 23, 24, 25, 26, 27, 28, 29, 30, 31] (by decide +kernel) (by decide +kernel)
set_option maxRecDepth 20000 in
theorem gX4_resync_X4_isNode : GoodIn wsX4_resync (wsV RX4 68 RX4 yX4_isNode wsX4_isNode) := goodIn_app (goodIn_of _ (by decide +kernel)) ggX4_resync_X4_isNode
set_option maxRecDepth 20000 in
theorem ggX4_resync_X4_placeOf : GoodIn wsX4_resync wsX4_placeOf := goodIn_r _ [15, 2, 3, 21, 22, 23, 24, 25, 26, 27, 28, 29, 30, 31] (by decide +kernel) (by decide +kernel)
set_option maxRecDepth 20000 in
theorem gX4_resync_X4_placeOf : GoodIn wsX4_resync (wsV RX4 42 RX4 yX4_placeOf wsX4_placeOf) := goodIn_app (goodIn_of _ (by decide +kernel)) ggX4_resync_X4_placeOf
set_option maxRecDepth 20000 in
theorem ggX4_resync_X4_throwsIt : GoodIn wsX4_resync wsX4_throwsIt := goodIn_r _ [19, 20, 21, 22, 23, 24, 25, 26, 27, 28, 29, 30, 31] (by decide +kernel) (by decide +kernel)
set_option maxRecDepth 20000 in
theorem gX4_resync_X4_throwsIt : GoodIn wsX4_resync (wsV RX4 56 RX4 yX4_throwsIt wsX4_throwsIt) := goodIn_app (goodIn_of _ (by decide +kernel)) ggX4_resync_X4_throwsIt
theorem dX4_resync_0 : decode cX4_resync 0 = .ok (.aload_n 0, 1) := by decide +kernel
theorem dX4_resync_1 : decode cX4_resync 1 = .ok (.iload_n 1, 1) := by decide +kernel
theorem dX4_resync_2 : decode cX4_resync 2 = .ok (.invokevirtual 68, 3) := by decide +kernel
theorem dX4_resync_5 : decode cX4_resync 5 = .ok (.ifCond .eq 11, 3) := by decide +kernel
theorem dX4_resync_8 : decode cX4_resync 8 = .ok (.aload_n 0, 1) := by decide +kernel
theorem dX4_resync_9 : decode cX4_resync 9 = .ok (.iload_n 1, 1) := by decide +kernel
theorem dX4_resync_10 : decode cX4_resync 10 = .ok (.invokevirtual 42, 3) := by decide +kernel
theorem dX4_resync_13 : decode cX4_resync 13 = .ok (.goto 4, 3) := by decide +kernel
theorem dX4_resync_16 : decode cX4_resync 16 = .ok (.iconst (-1), 1) := by decide +kernel
theorem dX4_resync_17 : decode cX4_resync 17 = .ok (.istore_n 2, 1) := by decide +kernel
theorem dX4_resync_18 : decode cX4_resync 18 = .ok (.aload_n 0, 1) := by decide +kernel
theorem dX4_resync_19 : decode cX4_resync 19 = .ok (.aload_n 0, 1) := by decide +kernel
theorem dX4_resync_20 : decode cX4_resync 20 = .ok (.iload_n 1, 1) := by decide +kernel
theorem dX4_resync_21 : decode cX4_resync 21 = .ok (.invokevirtual 68, 3) := by decide +kernel
theorem dX4_resync_24 : decode cX4_resync 24 = .ok (.ifCond .ne 7, 3) := by decide +kernel
theorem dX4_resync_27 : decode cX4_resync 27 = .ok (.iconst 1, 1) := by decide +kernel
theorem dX4_resync_28 : decode cX4_resync 28 = .ok (.goto 52, 3) := by decide +kernel
theorem dX4_resync_31 : decode cX4_resync 31 = .ok (.aload_n 0, 1) := by decide +kernel
theorem dX4_resync_32 : decode cX4_resync 32 = .ok (.getfield 13, 3) := by decide +kernel
theorem dX4_resync_35 : decode cX4_resync 35 = .ok (.iload_n 1, 1) := by decide +kernel
theorem dX4_resync_36 : decode cX4_resync 36 = .ok (.baload, 1) := by decide +kernel
theorem dX4_resync_37 : decode cX4_resync 37 = .ok (.ifCond .ne 38, 3) := by decide +kernel
theorem dX4_resync_40 : decode cX4_resync 40 = .ok (.iload_n 2, 1) := by decide +kernel
theorem dX4_resync_41 : decode cX4_resync 41 = .ok (.aload_n 0, 1) := by decide +kernel
theorem dX4_resync_42 : decode cX4_resync 42 = .ok (.getfield 36, 3) := by decide +kernel
theorem dX4_resync_45 : decode cX4_resync 45 = .ok (.iconst 1, 1) := by decide +kernel
theorem dX4_resync_46 : decode cX4_resync 46 = .ok (.isub, 1) := by decide +kernel
theorem dX4_resync_47 : decode cX4_resync 47 = .ok (.if_icmp .eq 28, 3) := by decide +kernel
theorem dX4_resync_50 : decode cX4_resync 50 = .ok (.aload_n 0, 1) := by decide +kernel
theorem dX4_resync_51 : decode cX4_resync 51 = .ok (.getfield 13, 3) := by decide +kernel
theorem dX4_resync_54 : decode cX4_resync 54 = .ok (.aload_n 0, 1) := by decide +kernel
theorem dX4_resync_55 : decode cX4_resync 55 = .ok (.getfield 7, 3) := by decide +kernel
theorem dX4_resync_58 : decode cX4_resync 58 = .ok (.iload_n 2, 1) := by decide +kernel
theorem dX4_resync_59 : decode cX4_resync 59 = .ok (.iconst 1, 1) := by decide +kernel
theorem dX4_resync_60 : decode cX4_resync 60 = .ok (.iadd, 1) := by decide +kernel
theorem dX4_resync_61 : decode cX4_resync 61 = .ok (.iaload, 1) := by decide +kernel
theorem dX4_resync_62 : decode cX4_resync 62 = .ok (.baload, 1) := by decide +kernel
theorem dX4_resync_63 : decode cX4_resync 63 = .ok (.ifCond .ne 12, 3) := by decide +kernel
theorem dX4_resync_66 : decode cX4_resync 66 = .ok (.aload_n 0, 1) := by decide +kernel
theorem dX4_resync_67 : decode cX4_resync 67 = .ok (.getfield 17, 3) := by decide +kernel
theorem dX4_resync_70 : decode cX4_resync 70 = .ok (.iload_n 1, 1) := by decide +kernel
theorem dX4_resync_71 : decode cX4_resync 71 = .ok (.baload, 1) := by decide +kernel
theorem dX4_resync_72 : decode cX4_resync 72 = .ok (.ifCond .eq 7, 3) := by decide +kernel
theorem dX4_resync_75 : decode cX4_resync 75 = .ok (.iconst 2, 1) := by decide +kernel
theorem dX4_resync_76 : decode cX4_resync 76 = .ok (.goto 4, 3) := by decide +kernel
theorem dX4_resync_79 : decode cX4_resync 79 = .ok (.iconst 0, 1) := by decide +kernel
theorem dX4_resync_80 : decode cX4_resync 80 = .ok (.invokevirtual 56, 3) := by decide +kernel
theorem dX4_resync_83 : decode cX4_resync 83 = .ok (.ifCond .eq 5, 3) := by decide +kernel
theorem dX4_resync_86 : decode cX4_resync 86 = .ok (.iconst 0, 1) := by decide +kernel
theorem dX4_resync_87 : decode cX4_resync 87 = .ok (.ireturn, 1) := by decide +kernel
theorem dX4_resync_88 : decode cX4_resync 88 = .ok (.aload_n 0, 1) := by decide +kernel
theorem dX4_resync_89 : decode cX4_resync 89 = .ok (.getfield 17, 3) := by decide +kernel
theorem dX4_resync_92 : decode cX4_resync 92 = .ok (.iload_n 1, 1) := by decide +kernel
theorem dX4_resync_93 : decode cX4_resync 93 = .ok (.iconst 1, 1) := by decide +kernel
theorem dX4_resync_94 : decode cX4_resync 94 = .ok (.bastore, 1) := by decide +kernel
theorem dX4_resync_95 : decode cX4_resync 95 = .ok (.aload_n 0, 1) := by decide +kernel
theorem dX4_resync_96 : decode cX4_resync 96 = .ok (.getfield 20, 3) := by decide +kernel
theorem dX4_resync_99 : decode cX4_resync 99 = .ok (.iload_n 1, 1) := by decide +kernel
theorem dX4_resync_100 : decode cX4_resync 100 = .ok (.iaload, 1) := by decide +kernel
theorem dX4_resync_101 : decode cX4_resync 101 = .ok (.aload_n 0, 1) := by decide +kernel
theorem dX4_resync_102 : decode cX4_resync 102 = .ok (.getfield 20, 3) := by decide +kernel
theorem dX4_resync_105 : decode cX4_resync 105 = .ok (.aload_n 0, 1) := by decide +kernel
theorem dX4_resync_106 : decode cX4_resync 106 = .ok (.getfield 7, 3) := by decide +kernel
theorem dX4_resync_109 : decode cX4_resync 109 = .ok (.iload_n 2, 1) := by decide +kernel
theorem dX4_resync_110 : decode cX4_resync 110 = .ok (.iconst 1, 1) := by decide +kernel
theorem dX4_resync_111 : decode cX4_resync 111 = .ok (.iadd, 1) := by decide +kernel
theorem dX4_resync_112 : decode cX4_resync 112 = .ok (.iaload, 1) := by decide +kernel
theorem dX4_resync_113 : decode cX4_resync 113 = .ok (.iaload, 1) := by decide +kernel
theorem dX4_resync_114 : decode cX4_resync 114 = .ok (.isub, 1) := by decide +kernel
theorem dX4_resync_115 : decode cX4_resync 115 = .ok (.ireturn, 1) := by decide +kernel
theorem dX4_replied_0 : decode cX4_replied 0 = .ok (.aload_n 0, 1) := by decide +kernel
theorem dX4_replied_1 : decode cX4_replied 1 = .ok (.iconst 0, 1) := by decide +kernel
theorem dX4_replied_2 : decode cX4_replied 2 = .ok (.putfield 39, 3) := by decide +kernel
theorem dX4_replied_5 : decode cX4_replied 5 = .ok (.iload_n 1, 1) := by decide +kernel
theorem dX4_replied_6 : decode cX4_replied 6 = .ok (.iconst 1, 1) := by decide +kernel
theorem dX4_replied_7 : decode cX4_replied 7 = .ok (.if_icmp .lt 15, 3) := by decide +kernel
theorem dX4_replied_10 : decode cX4_replied 10 = .ok (.iload_n 1, 1) := by decide +kernel
theorem dX4_replied_11 : decode cX4_replied 11 = .ok (.aload_n 0, 1) := by decide +kernel
theorem dX4_replied_12 : decode cX4_replied 12 = .ok (.getfield 50, 3) := by decide +kernel
theorem dX4_replied_15 : decode cX4_replied 15 = .ok (.if_icmp .gt 7, 3) := by decide +kernel
theorem dX4_replied_18 : decode cX4_replied 18 = .ok (.iconst 1, 1) := by decide +kernel
theorem dX4_replied_19 : decode cX4_replied 19 = .ok (.goto 4, 3) := by decide +kernel
theorem dX4_replied_22 : decode cX4_replied 22 = .ok (.iconst 0, 1) := by decide +kernel
theorem dX4_replied_23 : decode cX4_replied 23 = .ok (.ireturn, 1) := by decide +kernel
set_option maxRecDepth 20000 in
theorem ggX4_head_X4_first : GoodIn wsX4_head wsX4_first := goodIn_r _ [6, 7, 8, 9, 10, 11, 12, 13, 14, 15, 16, 17, 18] (by decide +kernel) (by decide +kernel)
set_option maxRecDepth 20000 in
theorem gX4_head_X4_first : GoodIn wsX4_head (wsV RX4 53 RX4 yX4_first wsX4_first) := goodIn_app (goodIn_of _ (by decide +kernel)) ggX4_head_X4_first
theorem dX4_head_0 : decode cX4_head 0 = .ok (.aload_n 0, 1) := by decide +kernel
theorem dX4_head_1 : decode cX4_head 1 = .ok (.iconst 0, 1) := by decide +kernel
theorem dX4_head_2 : decode cX4_head 2 = .ok (.putfield 39, 3) := by decide +kernel
theorem dX4_head_5 : decode cX4_head 5 = .ok (.aload_n 0, 1) := by decide +kernel
theorem dX4_head_6 : decode cX4_head 6 = .ok (.invokevirtual 53, 3) := by decide +kernel
theorem dX4_head_9 : decode cX4_head 9 = .ok (.ireturn, 1) := by decide +kernel
set_option maxRecDepth 20000 in
theorem ggX4_tail_X4_last : GoodIn wsX4_tail wsX4_last := goodIn_r _ [6, 7, 8, 9, 10, 11, 12, 13, 14, 15, 16, 17, 18, 19] (by decide +kernel) (by decide +kernel)
set_option maxRecDepth 20000 in
theorem gX4_tail_X4_last : GoodIn wsX4_tail (wsV RX4 46 RX4 yX4_last wsX4_last) := goodIn_app (goodIn_of _ (by decide +kernel)) ggX4_tail_X4_last
theorem dX4_tail_0 : decode cX4_tail 0 = .ok (.aload_n 0, 1) := by decide +kernel
theorem dX4_tail_1 : decode cX4_tail 1 = .ok (.iconst 0, 1) := by decide +kernel
theorem dX4_tail_2 : decode cX4_tail 2 = .ok (.putfield 39, 3) := by decide +kernel
theorem dX4_tail_5 : decode cX4_tail 5 = .ok (.aload_n 0, 1) := by decide +kernel
theorem dX4_tail_6 : decode cX4_tail 6 = .ok (.invokevirtual 46, 3) := by decide +kernel
theorem dX4_tail_9 : decode cX4_tail 9 = .ok (.ireturn, 1) := by decide +kernel
set_option maxRecDepth 20000 in
theorem ggX4_valueAt_X4_isNode : GoodIn wsX4_valueAt wsX4_isNode := goodIn_r _ [5, 6, 19, 20, 21, 22, 23, 24, 25, 26, 27, 28, 29] (by decide +kernel) (by decide +kernel)
set_option maxRecDepth 20000 in
theorem gX4_valueAt_X4_isNode : GoodIn wsX4_valueAt (wsV RX4 68 RX4 yX4_isNode wsX4_isNode) := goodIn_app (goodIn_of _ (by decide +kernel)) ggX4_valueAt_X4_isNode
set_option maxRecDepth 20000 in
theorem ggX4_valueAt_X4_throwsIt : GoodIn wsX4_valueAt wsX4_throwsIt := goodIn_r _ [10, 11, 19, 20, 21, 22, 23, 24, 25, 26, 27, 28, 29] (by decide +kernel) (by decide +kernel)
set_option maxRecDepth 20000 in
theorem gX4_valueAt_X4_throwsIt : GoodIn wsX4_valueAt (wsV RX4 56 RX4 yX4_throwsIt wsX4_throwsIt) := goodIn_app (goodIn_of _ (by decide +kernel)) ggX4_valueAt_X4_throwsIt
set_option maxRecDepth 20000 in
theorem ggX4_valueAt_X4_valueOf : GoodIn wsX4_valueAt wsX4_valueOf := goodIn_r _ [15, 16, 17, 18, 19, 20, 21, 22, 23, 24, 25, 26, 27, 28, 29] (by decide +kernel) (by decide +kernel)
set_option maxRecDepth 20000 in
theorem gX4_valueAt_X4_valueOf : GoodIn wsX4_valueAt (wsV RX4 64 RX4 yX4_valueOf wsX4_valueOf) := goodIn_app (goodIn_of _ (by decide +kernel)) ggX4_valueAt_X4_valueOf
theorem dX4_valueAt_0 : decode cX4_valueAt 0 = .ok (.aload_n 0, 1) := by decide +kernel
theorem dX4_valueAt_1 : decode cX4_valueAt 1 = .ok (.aload_n 0, 1) := by decide +kernel
theorem dX4_valueAt_2 : decode cX4_valueAt 2 = .ok (.iload_n 1, 1) := by decide +kernel
theorem dX4_valueAt_3 : decode cX4_valueAt 3 = .ok (.invokevirtual 68, 3) := by decide +kernel
theorem dX4_valueAt_6 : decode cX4_valueAt 6 = .ok (.ifCond .eq 17, 3) := by decide +kernel
theorem dX4_valueAt_9 : decode cX4_valueAt 9 = .ok (.iload_n 2, 1) := by decide +kernel
theorem dX4_valueAt_10 : decode cX4_valueAt 10 = .ok (.ifCond .lt 13, 3) := by decide +kernel
theorem dX4_valueAt_13 : decode cX4_valueAt 13 = .ok (.iload_n 2, 1) := by decide +kernel
theorem dX4_valueAt_14 : decode cX4_valueAt 14 = .ok (.bipush 7, 2) := by decide +kernel
theorem dX4_valueAt_16 : decode cX4_valueAt 16 = .ok (.if_icmp .gt 7, 3) := by decide +kernel
theorem dX4_valueAt_19 : decode cX4_valueAt 19 = .ok (.iconst 0, 1) := by decide +kernel
theorem dX4_valueAt_20 : decode cX4_valueAt 20 = .ok (.goto 4, 3) := by decide +kernel
theorem dX4_valueAt_23 : decode cX4_valueAt 23 = .ok (.iconst 1, 1) := by decide +kernel
theorem dX4_valueAt_24 : decode cX4_valueAt 24 = .ok (.invokevirtual 56, 3) := by decide +kernel
theorem dX4_valueAt_27 : decode cX4_valueAt 27 = .ok (.ifCond .eq 5, 3) := by decide +kernel
theorem dX4_valueAt_30 : decode cX4_valueAt 30 = .ok (.iconst 0, 1) := by decide +kernel
theorem dX4_valueAt_31 : decode cX4_valueAt 31 = .ok (.ireturn, 1) := by decide +kernel
theorem dX4_valueAt_32 : decode cX4_valueAt 32 = .ok (.aload_n 0, 1) := by decide +kernel
theorem dX4_valueAt_33 : decode cX4_valueAt 33 = .ok (.iload_n 1, 1) := by decide +kernel
theorem dX4_valueAt_34 : decode cX4_valueAt 34 = .ok (.iload_n 2, 1) := by decide +kernel
theorem dX4_valueAt_35 : decode cX4_valueAt 35 = .ok (.invokevirtual 64, 3) := by decide +kernel
theorem dX4_valueAt_38 : decode cX4_valueAt 38 = .ok (.ireturn, 1) := by decide +kernel
set_option maxRecDepth 20000 in
theorem ggX4_history_X4_isNode : GoodIn wsX4_history wsX4_isNode := goodIn_r _ [6, 7, 13, 14, 15, 16, 17, 18, 19, 20, 21, 22, 23] (by decide +kernel) (by decide +kernel)
set_option maxRecDepth 20000 in
theorem gX4_history_X4_isNode : GoodIn wsX4_history (wsV RX4 68 RX4 yX4_isNode wsX4_isNode) := goodIn_app (goodIn_of _ (by decide +kernel)) ggX4_history_X4_isNode
set_option maxRecDepth 20000 in
theorem ggX4_history_X4_throwsIt : GoodIn wsX4_history wsX4_throwsIt := goodIn_r _ [11, 12, 13, 14, 15, 16, 17, 18, 19, 20, 21, 22, 23] (by decide +kernel) (by decide +kernel)
set_option maxRecDepth 20000 in
theorem gX4_history_X4_throwsIt : GoodIn wsX4_history (wsV RX4 56 RX4 yX4_throwsIt wsX4_throwsIt) := goodIn_app (goodIn_of _ (by decide +kernel)) ggX4_history_X4_throwsIt
theorem dX4_history_0 : decode cX4_history 0 = .ok (.aload_n 0, 1) := by decide +kernel
theorem dX4_history_1 : decode cX4_history 1 = .ok (.aload_n 0, 1) := by decide +kernel
theorem dX4_history_2 : decode cX4_history 2 = .ok (.iload_n 1, 1) := by decide +kernel
theorem dX4_history_3 : decode cX4_history 3 = .ok (.invokevirtual 68, 3) := by decide +kernel
theorem dX4_history_6 : decode cX4_history 6 = .ok (.ifCond .eq 7, 3) := by decide +kernel
theorem dX4_history_9 : decode cX4_history 9 = .ok (.iconst 0, 1) := by decide +kernel
theorem dX4_history_10 : decode cX4_history 10 = .ok (.goto 4, 3) := by decide +kernel
theorem dX4_history_13 : decode cX4_history 13 = .ok (.iconst 1, 1) := by decide +kernel
theorem dX4_history_14 : decode cX4_history 14 = .ok (.invokevirtual 56, 3) := by decide +kernel
theorem dX4_history_17 : decode cX4_history 17 = .ok (.ifCond .eq 7, 3) := by decide +kernel
theorem dX4_history_20 : decode cX4_history 20 = .ok (.iconst 0, 1) := by decide +kernel
theorem dX4_history_21 : decode cX4_history 21 = .ok (.goto 9, 3) := by decide +kernel
theorem dX4_history_24 : decode cX4_history 24 = .ok (.aload_n 0, 1) := by decide +kernel
theorem dX4_history_25 : decode cX4_history 25 = .ok (.getfield 20, 3) := by decide +kernel
theorem dX4_history_28 : decode cX4_history 28 = .ok (.iload_n 1, 1) := by decide +kernel
theorem dX4_history_29 : decode cX4_history 29 = .ok (.iaload, 1) := by decide +kernel
theorem dX4_history_30 : decode cX4_history 30 = .ok (.ireturn, 1) := by decide +kernel
set_option maxRecDepth 20000 in
theorem ggX4_sent_X4_isNode : GoodIn wsX4_sent wsX4_isNode := goodIn_r _ [7, 8, 14, 15, 16, 17, 18, 19, 20, 21, 22, 23, 24] (by decide +kernel) (by decide +kernel)
set_option maxRecDepth 20000 in
theorem gX4_sent_X4_isNode : GoodIn wsX4_sent (wsV RX4 68 RX4 yX4_isNode wsX4_isNode) := goodIn_app (goodIn_of _ (by decide +kernel)) ggX4_sent_X4_isNode
set_option maxRecDepth 20000 in
theorem ggX4_sent_X4_throwsIt : GoodIn wsX4_sent wsX4_throwsIt := goodIn_r _ [12, 13, 14, 15, 16, 17, 18, 19, 20, 21, 22, 23, 24] (by decide +kernel) (by decide +kernel)
set_option maxRecDepth 20000 in
theorem gX4_sent_X4_throwsIt : GoodIn wsX4_sent (wsV RX4 56 RX4 yX4_throwsIt wsX4_throwsIt) := goodIn_app (goodIn_of _ (by decide +kernel)) ggX4_sent_X4_throwsIt
theorem dX4_sent_0 : decode cX4_sent 0 = .ok (.aload_n 0, 1) := by decide +kernel
theorem dX4_sent_1 : decode cX4_sent 1 = .ok (.aload_n 0, 1) := by decide +kernel
theorem dX4_sent_2 : decode cX4_sent 2 = .ok (.iload_n 1, 1) := by decide +kernel
theorem dX4_sent_3 : decode cX4_sent 3 = .ok (.invokevirtual 68, 3) := by decide +kernel
theorem dX4_sent_6 : decode cX4_sent 6 = .ok (.ifCond .eq 7, 3) := by decide +kernel
theorem dX4_sent_9 : decode cX4_sent 9 = .ok (.iconst 0, 1) := by decide +kernel
theorem dX4_sent_10 : decode cX4_sent 10 = .ok (.goto 4, 3) := by decide +kernel
theorem dX4_sent_13 : decode cX4_sent 13 = .ok (.iconst 1, 1) := by decide +kernel
theorem dX4_sent_14 : decode cX4_sent 14 = .ok (.invokevirtual 56, 3) := by decide +kernel
theorem dX4_sent_17 : decode cX4_sent 17 = .ok (.ifCond .eq 7, 3) := by decide +kernel
theorem dX4_sent_20 : decode cX4_sent 20 = .ok (.iconst 0, 1) := by decide +kernel
theorem dX4_sent_21 : decode cX4_sent 21 = .ok (.goto 16, 3) := by decide +kernel
theorem dX4_sent_24 : decode cX4_sent 24 = .ok (.aload_n 0, 1) := by decide +kernel
theorem dX4_sent_25 : decode cX4_sent 25 = .ok (.getfield 20, 3) := by decide +kernel
theorem dX4_sent_28 : decode cX4_sent 28 = .ok (.iload_n 1, 1) := by decide +kernel
theorem dX4_sent_29 : decode cX4_sent 29 = .ok (.iaload, 1) := by decide +kernel
theorem dX4_sent_30 : decode cX4_sent 30 = .ok (.aload_n 0, 1) := by decide +kernel
theorem dX4_sent_31 : decode cX4_sent 31 = .ok (.getfield 23, 3) := by decide +kernel
theorem dX4_sent_34 : decode cX4_sent 34 = .ok (.iload_n 1, 1) := by decide +kernel
theorem dX4_sent_35 : decode cX4_sent 35 = .ok (.iaload, 1) := by decide +kernel
theorem dX4_sent_36 : decode cX4_sent 36 = .ok (.isub, 1) := by decide +kernel
theorem dX4_sent_37 : decode cX4_sent 37 = .ok (.ireturn, 1) := by decide +kernel
set_option maxRecDepth 20000 in
theorem ggX4_waiting_X4_isNode : GoodIn wsX4_waiting wsX4_isNode := goodIn_r _ [5, 6, 29, 30, 31, 32, 33, 34, 35, 36, 37, 38, 39] (by decide +kernel) (by decide +kernel)
set_option maxRecDepth 20000 in
theorem gX4_waiting_X4_isNode : GoodIn wsX4_waiting (wsV RX4 68 RX4 yX4_isNode wsX4_isNode) := goodIn_app (goodIn_of _ (by decide +kernel)) ggX4_waiting_X4_isNode
set_option maxRecDepth 20000 in
theorem ggX4_waiting_X4_throwsIt : GoodIn wsX4_waiting wsX4_throwsIt := goodIn_r _ [10, 11, 29, 30, 31, 32, 33, 34, 35, 36, 37, 38, 39] (by decide +kernel) (by decide +kernel)
set_option maxRecDepth 20000 in
theorem gX4_waiting_X4_throwsIt : GoodIn wsX4_waiting (wsV RX4 56 RX4 yX4_throwsIt wsX4_throwsIt) := goodIn_app (goodIn_of _ (by decide +kernel)) ggX4_waiting_X4_throwsIt
set_option maxRecDepth 20000 in
theorem ggX4_waiting_X4_updatesTo : GoodIn wsX4_waiting wsX4_updatesTo := goodIn_r _ [15, 16, 17, 18, 19, 20, 21, 4, 22, 23, 29, 30, 31, 32, 33, 34, 35, 36, 37, 38, 39] (by decide +kernel) (by decide +kernel)
set_option maxRecDepth 20000 in
theorem gX4_waiting_X4_updatesTo : GoodIn wsX4_waiting (wsV RX4 71 RX4 yX4_updatesTo wsX4_updatesTo) := goodIn_app (goodIn_of _ (by decide +kernel)) ggX4_waiting_X4_updatesTo
set_option maxRecDepth 20000 in
theorem ggX4_waiting_X4_acksTo : GoodIn wsX4_waiting wsX4_acksTo := goodIn_r _ [27, 23, 16, 28, 17, 19, 20, 21, 4, 22, 29, 30, 31, 32, 33, 34, 35, 36, 37, 38, 39] (by decide +kernel) (by decide +kernel)
set_option maxRecDepth 20000 in
theorem gX4_waiting_X4_acksTo : GoodIn wsX4_waiting (wsV RX4 74 RX4 yX4_acksTo wsX4_acksTo) := goodIn_app (goodIn_of _ (by decide +kernel)) ggX4_waiting_X4_acksTo
theorem dX4_waiting_0 : decode cX4_waiting 0 = .ok (.aload_n 0, 1) := by decide +kernel
theorem dX4_waiting_1 : decode cX4_waiting 1 = .ok (.aload_n 0, 1) := by decide +kernel
theorem dX4_waiting_2 : decode cX4_waiting 2 = .ok (.iload_n 1, 1) := by decide +kernel
theorem dX4_waiting_3 : decode cX4_waiting 3 = .ok (.invokevirtual 68, 3) := by decide +kernel
theorem dX4_waiting_6 : decode cX4_waiting 6 = .ok (.ifCond .eq 7, 3) := by decide +kernel
theorem dX4_waiting_9 : decode cX4_waiting 9 = .ok (.iconst 0, 1) := by decide +kernel
theorem dX4_waiting_10 : decode cX4_waiting 10 = .ok (.goto 4, 3) := by decide +kernel
theorem dX4_waiting_13 : decode cX4_waiting 13 = .ok (.iconst 1, 1) := by decide +kernel
theorem dX4_waiting_14 : decode cX4_waiting 14 = .ok (.invokevirtual 56, 3) := by decide +kernel
theorem dX4_waiting_17 : decode cX4_waiting 17 = .ok (.ifCond .eq 7, 3) := by decide +kernel
theorem dX4_waiting_20 : decode cX4_waiting 20 = .ok (.iconst 0, 1) := by decide +kernel
theorem dX4_waiting_21 : decode cX4_waiting 21 = .ok (.goto 17, 3) := by decide +kernel
theorem dX4_waiting_24 : decode cX4_waiting 24 = .ok (.aload_n 0, 1) := by decide +kernel
theorem dX4_waiting_25 : decode cX4_waiting 25 = .ok (.iload_n 1, 1) := by decide +kernel
theorem dX4_waiting_26 : decode cX4_waiting 26 = .ok (.invokevirtual 71, 3) := by decide +kernel
theorem dX4_waiting_29 : decode cX4_waiting 29 = .ok (.bipush 100, 2) := by decide +kernel
theorem dX4_waiting_31 : decode cX4_waiting 31 = .ok (.aload_n 0, 1) := by decide +kernel
theorem dX4_waiting_32 : decode cX4_waiting 32 = .ok (.iload_n 1, 1) := by decide +kernel
theorem dX4_waiting_33 : decode cX4_waiting 33 = .ok (.invokevirtual 74, 3) := by decide +kernel
theorem dX4_waiting_36 : decode cX4_waiting 36 = .ok (.imul, 1) := by decide +kernel
theorem dX4_waiting_37 : decode cX4_waiting 37 = .ok (.iadd, 1) := by decide +kernel
theorem dX4_waiting_38 : decode cX4_waiting 38 = .ok (.ireturn, 1) := by decide +kernel
theorem dX4_lag_0 : decode cX4_lag 0 = .ok (.aload_n 0, 1) := by decide +kernel
theorem dX4_lag_1 : decode cX4_lag 1 = .ok (.iconst 0, 1) := by decide +kernel
theorem dX4_lag_2 : decode cX4_lag 2 = .ok (.putfield 39, 3) := by decide +kernel
theorem dX4_lag_5 : decode cX4_lag 5 = .ok (.iconst (-1), 1) := by decide +kernel
theorem dX4_lag_6 : decode cX4_lag 6 = .ok (.istore_n 1, 1) := by decide +kernel
theorem dX4_lag_7 : decode cX4_lag 7 = .ok (.iconst 0, 1) := by decide +kernel
theorem dX4_lag_8 : decode cX4_lag 8 = .ok (.istore_n 2, 1) := by decide +kernel
theorem dX4_lag_9 : decode cX4_lag 9 = .ok (.iconst 0, 1) := by decide +kernel
theorem dX4_lag_10 : decode cX4_lag 10 = .ok (.istore_n 3, 1) := by decide +kernel
theorem dX4_lag_11 : decode cX4_lag 11 = .ok (.iconst 0, 1) := by decide +kernel
theorem dX4_lag_12 : decode cX4_lag 12 = .ok (.istore 4, 2) := by decide +kernel
theorem dX4_lag_14 : decode cX4_lag 14 = .ok (.iload 4, 2) := by decide +kernel
theorem dX4_lag_16 : decode cX4_lag 16 = .ok (.aload_n 0, 1) := by decide +kernel
theorem dX4_lag_17 : decode cX4_lag 17 = .ok (.getfield 36, 3) := by decide +kernel
theorem dX4_lag_20 : decode cX4_lag 20 = .ok (.if_icmp .ge 65, 3) := by decide +kernel
theorem dX4_lag_23 : decode cX4_lag 23 = .ok (.aload_n 0, 1) := by decide +kernel
theorem dX4_lag_24 : decode cX4_lag 24 = .ok (.getfield 13, 3) := by decide +kernel
theorem dX4_lag_27 : decode cX4_lag 27 = .ok (.aload_n 0, 1) := by decide +kernel
theorem dX4_lag_28 : decode cX4_lag 28 = .ok (.getfield 7, 3) := by decide +kernel
theorem dX4_lag_31 : decode cX4_lag 31 = .ok (.iload 4, 2) := by decide +kernel
theorem dX4_lag_33 : decode cX4_lag 33 = .ok (.iaload, 1) := by decide +kernel
theorem dX4_lag_34 : decode cX4_lag 34 = .ok (.baload, 1) := by decide +kernel
theorem dX4_lag_35 : decode cX4_lag 35 = .ok (.ifCond .ne 44, 3) := by decide +kernel
theorem dX4_lag_38 : decode cX4_lag 38 = .ok (.iload_n 1, 1) := by decide +kernel
theorem dX4_lag_39 : decode cX4_lag 39 = .ok (.ifCond .ge 18, 3) := by decide +kernel
theorem dX4_lag_42 : decode cX4_lag 42 = .ok (.aload_n 0, 1) := by decide +kernel
theorem dX4_lag_43 : decode cX4_lag 43 = .ok (.getfield 20, 3) := by decide +kernel
theorem dX4_lag_46 : decode cX4_lag 46 = .ok (.aload_n 0, 1) := by decide +kernel
theorem dX4_lag_47 : decode cX4_lag 47 = .ok (.getfield 7, 3) := by decide +kernel
theorem dX4_lag_50 : decode cX4_lag 50 = .ok (.iload 4, 2) := by decide +kernel
theorem dX4_lag_52 : decode cX4_lag 52 = .ok (.iaload, 1) := by decide +kernel
theorem dX4_lag_53 : decode cX4_lag 53 = .ok (.iaload, 1) := by decide +kernel
theorem dX4_lag_54 : decode cX4_lag 54 = .ok (.goto 4, 3) := by decide +kernel
theorem dX4_lag_57 : decode cX4_lag 57 = .ok (.iload_n 1, 1) := by decide +kernel
theorem dX4_lag_58 : decode cX4_lag 58 = .ok (.istore_n 1, 1) := by decide +kernel
theorem dX4_lag_59 : decode cX4_lag 59 = .ok (.iload_n 2, 1) := by decide +kernel
theorem dX4_lag_60 : decode cX4_lag 60 = .ok (.iload_n 1, 1) := by decide +kernel
theorem dX4_lag_61 : decode cX4_lag 61 = .ok (.iadd, 1) := by decide +kernel
theorem dX4_lag_62 : decode cX4_lag 62 = .ok (.aload_n 0, 1) := by decide +kernel
theorem dX4_lag_63 : decode cX4_lag 63 = .ok (.getfield 20, 3) := by decide +kernel
theorem dX4_lag_66 : decode cX4_lag 66 = .ok (.aload_n 0, 1) := by decide +kernel
theorem dX4_lag_67 : decode cX4_lag 67 = .ok (.getfield 7, 3) := by decide +kernel
theorem dX4_lag_70 : decode cX4_lag 70 = .ok (.iload 4, 2) := by decide +kernel
theorem dX4_lag_72 : decode cX4_lag 72 = .ok (.iaload, 1) := by decide +kernel
theorem dX4_lag_73 : decode cX4_lag 73 = .ok (.iaload, 1) := by decide +kernel
theorem dX4_lag_74 : decode cX4_lag 74 = .ok (.isub, 1) := by decide +kernel
theorem dX4_lag_75 : decode cX4_lag 75 = .ok (.istore_n 2, 1) := by decide +kernel
theorem dX4_lag_76 : decode cX4_lag 76 = .ok (.iinc 3 1, 3) := by decide +kernel
theorem dX4_lag_79 : decode cX4_lag 79 = .ok (.iinc 4 1, 3) := by decide +kernel
theorem dX4_lag_82 : decode cX4_lag 82 = .ok (.goto (-68), 3) := by decide +kernel
theorem dX4_lag_85 : decode cX4_lag 85 = .ok (.iload_n 2, 1) := by decide +kernel
theorem dX4_lag_86 : decode cX4_lag 86 = .ok (.i2d, 1) := by decide +kernel
theorem dX4_lag_87 : decode cX4_lag 87 = .ok (.iload_n 3, 1) := by decide +kernel
theorem dX4_lag_88 : decode cX4_lag 88 = .ok (.i2d, 1) := by decide +kernel
theorem dX4_lag_89 : decode cX4_lag 89 = .ok (.ddiv, 1) := by decide +kernel
theorem dX4_lag_90 : decode cX4_lag 90 = .ok (.dreturn, 1) := by decide +kernel
theorem dJ9_max_7cf53_0 : decode cJ9_max_7cf53 0 = .ok (.iload_n 0, 1) := by decide +kernel
theorem dJ9_max_7cf53_1 : decode cJ9_max_7cf53 1 = .ok (.iload_n 1, 1) := by decide +kernel
theorem dJ9_max_7cf53_2 : decode cJ9_max_7cf53 2 = .ok (.if_icmp .lt 7, 3) := by decide +kernel
theorem dJ9_max_7cf53_5 : decode cJ9_max_7cf53 5 = .ok (.iload_n 0, 1) := by decide +kernel
theorem dJ9_max_7cf53_6 : decode cJ9_max_7cf53 6 = .ok (.goto 4, 3) := by decide +kernel
theorem dJ9_max_7cf53_9 : decode cJ9_max_7cf53 9 = .ok (.iload_n 1, 1) := by decide +kernel
theorem dJ9_max_7cf53_10 : decode cJ9_max_7cf53 10 = .ok (.ireturn, 1) := by decide +kernel
theorem dL_cell_0 : decode cL_cell 0 = .ok (.iload_n 1, 1) := by decide +kernel
theorem dL_cell_1 : decode cL_cell 1 = .ok (.aload_n 0, 1) := by decide +kernel
theorem dL_cell_2 : decode cL_cell 2 = .ok (.arraylength, 1) := by decide +kernel
theorem dL_cell_3 : decode cL_cell 3 = .ok (.if_icmp .ge 9, 3) := by decide +kernel
theorem dL_cell_6 : decode cL_cell 6 = .ok (.aload_n 0, 1) := by decide +kernel
theorem dL_cell_7 : decode cL_cell 7 = .ok (.iload_n 1, 1) := by decide +kernel
theorem dL_cell_8 : decode cL_cell 8 = .ok (.iaload, 1) := by decide +kernel
theorem dL_cell_9 : decode cL_cell 9 = .ok (.goto 4, 3) := by decide +kernel
theorem dL_cell_12 : decode cL_cell 12 = .ok (.iconst 0, 1) := by decide +kernel
theorem dL_cell_13 : decode cL_cell 13 = .ok (.ireturn, 1) := by decide +kernel
set_option maxRecDepth 20000 in
theorem ggL_write_X3_write : GoodIn wsL_write wsX3_write := goodIn_ca (goodIn_ca (goodIn_r _ [7, 8, 9, 10, 11, 12, 13, 14, 15, 6, 16, 17, 18, 19, 20, 21, 22, 23, 24, 25, 26, 27, 28, 29, 30, 31, 32, 33, 34, 35, 36, 37, 38, 39, 40, 41, 42, 43, 44, 45, 46, 47, 48, 49, 50, 51, 52, 53, 54, 55, 56, 57, 58, 59, 60, 61, 62, 63, 64, 65, 66, 67, 68, 69, 70, 71, 72, 73] (by decide +kernel) (by decide +kernel)) (goodIn_sub (fun _ h => List.mem_cons_of_mem _ (List.mem_append_left _ (List.mem_append_right _ h))) (by decide +kernel))) (goodIn_sub (fun _ h => List.mem_cons_of_mem _ (List.mem_append_right _ h)) (by decide +kernel))
set_option maxRecDepth 20000 in
theorem gL_write_X3_write : GoodIn wsL_write (wsV RL 7 RX3 yX3_write wsX3_write) := goodIn_app (goodIn_of _ (by decide +kernel)) ggL_write_X3_write
theorem dL_write_0 : decode cL_write 0 = .ok (.aload_n 3, 1) := by decide +kernel
theorem dL_write_1 : decode cL_write 1 = .ok (.iconst 0, 1) := by decide +kernel
theorem dL_write_2 : decode cL_write 2 = .ok (.aload_n 0, 1) := by decide +kernel
theorem dL_write_3 : decode cL_write 3 = .ok (.iload_n 1, 1) := by decide +kernel
theorem dL_write_4 : decode cL_write 4 = .ok (.iload_n 2, 1) := by decide +kernel
theorem dL_write_5 : decode cL_write 5 = .ok (.invokevirtual 7, 3) := by decide +kernel
theorem dL_write_8 : decode cL_write 8 = .ok (.i2l, 1) := by decide +kernel
theorem dL_write_9 : decode cL_write 9 = .ok (.lastore, 1) := by decide +kernel
theorem dL_write_10 : decode cL_write 10 = .ok (.goto 11, 3) := by decide +kernel
theorem dL_write_13 : decode cL_write 13 = .ok (.astore 4, 2) := by decide +kernel
theorem dL_write_15 : decode cL_write 15 = .ok (.iconst 1, 1) := by decide +kernel
theorem dL_write_16 : decode cL_write 16 = .ok (.ireturn, 1) := by decide +kernel
theorem dL_write_17 : decode cL_write 17 = .ok (.astore 4, 2) := by decide +kernel
theorem dL_write_19 : decode cL_write 19 = .ok (.iconst 2, 1) := by decide +kernel
theorem dL_write_20 : decode cL_write 20 = .ok (.ireturn, 1) := by decide +kernel
theorem dL_write_21 : decode cL_write 21 = .ok (.iconst 0, 1) := by decide +kernel
theorem dL_write_22 : decode cL_write 22 = .ok (.ireturn, 1) := by decide +kernel
set_option maxRecDepth 20000 in
theorem ggL_read_X3_read : GoodIn wsL_read wsX3_read := goodIn_ca (goodIn_ca (goodIn_r _ [7, 8, 9, 10, 11, 12, 13, 14, 6, 15, 16, 17, 18, 19, 20, 21, 22, 23, 24, 25, 26, 27, 28, 29, 30, 31, 32] (by decide +kernel) (by decide +kernel)) (goodIn_sub (fun _ h => List.mem_cons_of_mem _ (List.mem_append_left _ (List.mem_append_right _ h))) (by decide +kernel))) (goodIn_sub (fun _ h => List.mem_cons_of_mem _ (List.mem_append_right _ h)) (by decide +kernel))
set_option maxRecDepth 20000 in
theorem gL_read_X3_read : GoodIn wsL_read (wsV RL 17 RX3 yX3_read wsX3_read) := goodIn_app (goodIn_of _ (by decide +kernel)) ggL_read_X3_read
theorem dL_read_0 : decode cL_read 0 = .ok (.aload_n 2, 1) := by decide +kernel
theorem dL_read_1 : decode cL_read 1 = .ok (.iconst 0, 1) := by decide +kernel
theorem dL_read_2 : decode cL_read 2 = .ok (.aload_n 0, 1) := by decide +kernel
theorem dL_read_3 : decode cL_read 3 = .ok (.iload_n 1, 1) := by decide +kernel
theorem dL_read_4 : decode cL_read 4 = .ok (.invokevirtual 17, 3) := by decide +kernel
theorem dL_read_7 : decode cL_read 7 = .ok (.i2l, 1) := by decide +kernel
theorem dL_read_8 : decode cL_read 8 = .ok (.lastore, 1) := by decide +kernel
theorem dL_read_9 : decode cL_read 9 = .ok (.goto 9, 3) := by decide +kernel
theorem dL_read_12 : decode cL_read 12 = .ok (.astore_n 3, 1) := by decide +kernel
theorem dL_read_13 : decode cL_read 13 = .ok (.iconst 1, 1) := by decide +kernel
theorem dL_read_14 : decode cL_read 14 = .ok (.ireturn, 1) := by decide +kernel
theorem dL_read_15 : decode cL_read 15 = .ok (.astore_n 3, 1) := by decide +kernel
theorem dL_read_16 : decode cL_read 16 = .ok (.iconst 2, 1) := by decide +kernel
theorem dL_read_17 : decode cL_read 17 = .ok (.ireturn, 1) := by decide +kernel
theorem dL_read_18 : decode cL_read 18 = .ok (.iconst 0, 1) := by decide +kernel
theorem dL_read_19 : decode cL_read 19 = .ok (.ireturn, 1) := by decide +kernel
set_option maxRecDepth 20000 in
theorem ggL_deliver_X3_deliver : GoodIn wsL_deliver wsX3_deliver := goodIn_ca (goodIn_ca (goodIn_ca (goodIn_r _ [8, 9, 10, 11, 12, 13, 14, 15, 16, 17, 18, 7, 19, 20, 21, 22, 23, 24, 25, 26, 27, 28, 29, 30, 31, 32, 33, 34, 35, 36, 37, 38, 39, 40, 41, 42, 43, 44, 45, 46, 47, 48, 49, 50, 51, 52, 53, 54, 55, 56, 57, 58, 59, 60, 61, 62, 63, 64, 65, 66, 67, 68, 69, 70, 71, 72, 73, 74, 75, 76, 77, 78, 79, 80, 81, 82, 83, 84, 85, 86, 87, 88, 89] (by decide +kernel) (by decide +kernel)) (goodIn_sub (fun _ h => List.mem_cons_of_mem _ (List.mem_append_left _ (List.mem_append_left _ (List.mem_append_right _ h)))) (by decide +kernel))) (goodIn_sub (fun _ h => List.mem_cons_of_mem _ (List.mem_append_left _ (List.mem_append_right _ h))) (by decide +kernel))) (goodIn_sub (fun _ h => List.mem_cons_of_mem _ (List.mem_append_right _ h)) (by decide +kernel))
set_option maxRecDepth 20000 in
theorem gL_deliver_X3_deliver : GoodIn wsL_deliver (wsV RL 21 RX3 yX3_deliver wsX3_deliver) := goodIn_app (goodIn_of _ (by decide +kernel)) ggL_deliver_X3_deliver
theorem dL_deliver_0 : decode cL_deliver 0 = .ok (.aload_n 2, 1) := by decide +kernel
theorem dL_deliver_1 : decode cL_deliver 1 = .ok (.iconst 0, 1) := by decide +kernel
theorem dL_deliver_2 : decode cL_deliver 2 = .ok (.aload_n 0, 1) := by decide +kernel
theorem dL_deliver_3 : decode cL_deliver 3 = .ok (.iload_n 1, 1) := by decide +kernel
theorem dL_deliver_4 : decode cL_deliver 4 = .ok (.invokevirtual 21, 3) := by decide +kernel
theorem dL_deliver_7 : decode cL_deliver 7 = .ok (.i2l, 1) := by decide +kernel
theorem dL_deliver_8 : decode cL_deliver 8 = .ok (.lastore, 1) := by decide +kernel
theorem dL_deliver_9 : decode cL_deliver 9 = .ok (.goto 12, 3) := by decide +kernel
theorem dL_deliver_12 : decode cL_deliver 12 = .ok (.astore_n 3, 1) := by decide +kernel
theorem dL_deliver_13 : decode cL_deliver 13 = .ok (.iconst 1, 1) := by decide +kernel
theorem dL_deliver_14 : decode cL_deliver 14 = .ok (.ireturn, 1) := by decide +kernel
theorem dL_deliver_15 : decode cL_deliver 15 = .ok (.astore_n 3, 1) := by decide +kernel
theorem dL_deliver_16 : decode cL_deliver 16 = .ok (.iconst 2, 1) := by decide +kernel
theorem dL_deliver_17 : decode cL_deliver 17 = .ok (.ireturn, 1) := by decide +kernel
theorem dL_deliver_18 : decode cL_deliver 18 = .ok (.astore_n 3, 1) := by decide +kernel
theorem dL_deliver_19 : decode cL_deliver 19 = .ok (.iconst 3, 1) := by decide +kernel
theorem dL_deliver_20 : decode cL_deliver 20 = .ok (.ireturn, 1) := by decide +kernel
theorem dL_deliver_21 : decode cL_deliver 21 = .ok (.iconst 0, 1) := by decide +kernel
theorem dL_deliver_22 : decode cL_deliver 22 = .ok (.ireturn, 1) := by decide +kernel
set_option maxRecDepth 20000 in
theorem ggL_acknowledge_X3_acknowledge : GoodIn wsL_acknowledge wsX3_acknowledge := goodIn_ca (goodIn_ca (goodIn_ca (goodIn_r _ [8, 9, 10, 11, 12, 13, 14, 15, 16, 17, 18, 7, 19, 20, 21, 22, 23, 24, 25, 26, 27, 28, 29, 30, 31, 32, 33, 34, 35, 36, 37, 38, 39, 40, 41, 42, 43, 44, 45, 46, 47, 48, 49, 50, 51, 52, 53, 54, 55, 56, 57, 58, 59, 60, 61, 62, 63, 64, 65, 66, 67, 68, 69, 70, 71, 72, 73, 74, 75, 76, 77, 78] (by decide +kernel) (by decide +kernel)) (goodIn_sub (fun _ h => List.mem_cons_of_mem _ (List.mem_append_left _ (List.mem_append_left _ (List.mem_append_right _ h)))) (by decide +kernel))) (goodIn_sub (fun _ h => List.mem_cons_of_mem _ (List.mem_append_left _ (List.mem_append_right _ h))) (by decide +kernel))) (goodIn_sub (fun _ h => List.mem_cons_of_mem _ (List.mem_append_right _ h)) (by decide +kernel))
set_option maxRecDepth 20000 in
theorem gL_acknowledge_X3_acknowledge : GoodIn wsL_acknowledge (wsV RL 26 RX3 yX3_acknowledge wsX3_acknowledge) := goodIn_app (goodIn_of _ (by decide +kernel)) ggL_acknowledge_X3_acknowledge
theorem dL_acknowledge_0 : decode cL_acknowledge 0 = .ok (.aload_n 2, 1) := by decide +kernel
theorem dL_acknowledge_1 : decode cL_acknowledge 1 = .ok (.iconst 0, 1) := by decide +kernel
theorem dL_acknowledge_2 : decode cL_acknowledge 2 = .ok (.aload_n 0, 1) := by decide +kernel
theorem dL_acknowledge_3 : decode cL_acknowledge 3 = .ok (.iload_n 1, 1) := by decide +kernel
theorem dL_acknowledge_4 : decode cL_acknowledge 4 = .ok (.invokevirtual 26, 3) := by decide +kernel
theorem dL_acknowledge_7 : decode cL_acknowledge 7 = .ok (.i2l, 1) := by decide +kernel
theorem dL_acknowledge_8 : decode cL_acknowledge 8 = .ok (.lastore, 1) := by decide +kernel
theorem dL_acknowledge_9 : decode cL_acknowledge 9 = .ok (.goto 12, 3) := by decide +kernel
theorem dL_acknowledge_12 : decode cL_acknowledge 12 = .ok (.astore_n 3, 1) := by decide +kernel
theorem dL_acknowledge_13 : decode cL_acknowledge 13 = .ok (.iconst 1, 1) := by decide +kernel
theorem dL_acknowledge_14 : decode cL_acknowledge 14 = .ok (.ireturn, 1) := by decide +kernel
theorem dL_acknowledge_15 : decode cL_acknowledge 15 = .ok (.astore_n 3, 1) := by decide +kernel
theorem dL_acknowledge_16 : decode cL_acknowledge 16 = .ok (.iconst 2, 1) := by decide +kernel
theorem dL_acknowledge_17 : decode cL_acknowledge 17 = .ok (.ireturn, 1) := by decide +kernel
theorem dL_acknowledge_18 : decode cL_acknowledge 18 = .ok (.astore_n 3, 1) := by decide +kernel
theorem dL_acknowledge_19 : decode cL_acknowledge 19 = .ok (.iconst 3, 1) := by decide +kernel
theorem dL_acknowledge_20 : decode cL_acknowledge 20 = .ok (.ireturn, 1) := by decide +kernel
theorem dL_acknowledge_21 : decode cL_acknowledge 21 = .ok (.iconst 0, 1) := by decide +kernel
theorem dL_acknowledge_22 : decode cL_acknowledge 22 = .ok (.ireturn, 1) := by decide +kernel
set_option maxRecDepth 20000 in
theorem ggL_fail_X3_fail : GoodIn wsL_fail wsX3_fail := goodIn_ca (goodIn_r _ [6, 7, 8, 9, 10, 11, 12, 5, 13, 14, 15, 16, 17, 18, 19, 20, 21, 22, 23, 24, 25, 26, 27, 28, 29, 30, 31, 32, 33, 34, 35, 36, 37, 38, 39, 40, 41, 42, 43, 44, 45, 46, 47, 48, 49, 50, 51, 52, 53, 54, 55, 56, 57, 58, 59, 60, 61, 62] (by decide +kernel) (by decide +kernel)) (goodIn_sub (fun _ h => List.mem_cons_of_mem _ (List.mem_append_right _ h)) (by decide +kernel))
set_option maxRecDepth 20000 in
theorem gL_fail_X3_fail : GoodIn wsL_fail (wsV RL 29 RX3 yX3_fail wsX3_fail) := goodIn_app (goodIn_of _ (by decide +kernel)) ggL_fail_X3_fail
theorem dL_fail_0 : decode cL_fail 0 = .ok (.aload_n 2, 1) := by decide +kernel
theorem dL_fail_1 : decode cL_fail 1 = .ok (.iconst 0, 1) := by decide +kernel
theorem dL_fail_2 : decode cL_fail 2 = .ok (.aload_n 0, 1) := by decide +kernel
theorem dL_fail_3 : decode cL_fail 3 = .ok (.iload_n 1, 1) := by decide +kernel
theorem dL_fail_4 : decode cL_fail 4 = .ok (.invokevirtual 29, 3) := by decide +kernel
theorem dL_fail_7 : decode cL_fail 7 = .ok (.ifCond .eq 7, 3) := by decide +kernel
theorem dL_fail_10 : decode cL_fail 10 = .ok (.lconst 1, 1) := by decide +kernel
theorem dL_fail_11 : decode cL_fail 11 = .ok (.goto 4, 3) := by decide +kernel
theorem dL_fail_14 : decode cL_fail 14 = .ok (.lconst 0, 1) := by decide +kernel
theorem dL_fail_15 : decode cL_fail 15 = .ok (.lastore, 1) := by decide +kernel
theorem dL_fail_16 : decode cL_fail 16 = .ok (.goto 6, 3) := by decide +kernel
theorem dL_fail_19 : decode cL_fail 19 = .ok (.astore_n 3, 1) := by decide +kernel
theorem dL_fail_20 : decode cL_fail 20 = .ok (.iconst 1, 1) := by decide +kernel
theorem dL_fail_21 : decode cL_fail 21 = .ok (.ireturn, 1) := by decide +kernel
theorem dL_fail_22 : decode cL_fail 22 = .ok (.iconst 0, 1) := by decide +kernel
theorem dL_fail_23 : decode cL_fail 23 = .ok (.ireturn, 1) := by decide +kernel
set_option maxRecDepth 20000 in
theorem ggL_resync_X3_resync : GoodIn wsL_resync wsX3_resync := goodIn_ca (goodIn_ca (goodIn_r _ [7, 8, 9, 10, 11, 12, 13, 14, 15, 16, 17, 18, 6, 19, 20, 21, 22, 23, 24, 25, 26, 27, 28, 29, 30, 31, 32, 33, 34, 35, 36, 37, 38, 39, 40, 41, 42, 43, 44, 45, 46, 47, 48, 49, 50, 51, 52, 53, 54, 55, 56, 57, 58, 59, 60, 61, 62, 63, 64, 65, 66, 67, 68, 69, 70, 71, 72, 73, 74, 75] (by decide +kernel) (by decide +kernel)) (goodIn_sub (fun _ h => List.mem_cons_of_mem _ (List.mem_append_left _ (List.mem_append_right _ h))) (by decide +kernel))) (goodIn_sub (fun _ h => List.mem_cons_of_mem _ (List.mem_append_right _ h)) (by decide +kernel))
set_option maxRecDepth 20000 in
theorem gL_resync_X3_resync : GoodIn wsL_resync (wsV RL 33 RX3 yX3_resync wsX3_resync) := goodIn_app (goodIn_of _ (by decide +kernel)) ggL_resync_X3_resync
theorem dL_resync_0 : decode cL_resync 0 = .ok (.aload_n 2, 1) := by decide +kernel
theorem dL_resync_1 : decode cL_resync 1 = .ok (.iconst 0, 1) := by decide +kernel
theorem dL_resync_2 : decode cL_resync 2 = .ok (.aload_n 0, 1) := by decide +kernel
theorem dL_resync_3 : decode cL_resync 3 = .ok (.iload_n 1, 1) := by decide +kernel
theorem dL_resync_4 : decode cL_resync 4 = .ok (.invokevirtual 33, 3) := by decide +kernel
theorem dL_resync_7 : decode cL_resync 7 = .ok (.i2l, 1) := by decide +kernel
theorem dL_resync_8 : decode cL_resync 8 = .ok (.lastore, 1) := by decide +kernel
theorem dL_resync_9 : decode cL_resync 9 = .ok (.goto 9, 3) := by decide +kernel
theorem dL_resync_12 : decode cL_resync 12 = .ok (.astore_n 3, 1) := by decide +kernel
theorem dL_resync_13 : decode cL_resync 13 = .ok (.iconst 1, 1) := by decide +kernel
theorem dL_resync_14 : decode cL_resync 14 = .ok (.ireturn, 1) := by decide +kernel
theorem dL_resync_15 : decode cL_resync 15 = .ok (.astore_n 3, 1) := by decide +kernel
theorem dL_resync_16 : decode cL_resync 16 = .ok (.iconst 2, 1) := by decide +kernel
theorem dL_resync_17 : decode cL_resync 17 = .ok (.ireturn, 1) := by decide +kernel
theorem dL_resync_18 : decode cL_resync 18 = .ok (.iconst 0, 1) := by decide +kernel
theorem dL_resync_19 : decode cL_resync 19 = .ok (.ireturn, 1) := by decide +kernel
set_option maxRecDepth 20000 in
theorem ggL_valueAt_X3_valueAt : GoodIn wsL_valueAt wsX3_valueAt := goodIn_ca (goodIn_r _ [6, 7, 8, 9, 10, 11, 12, 5, 13, 14, 15, 16, 17, 18, 19, 20, 21, 22, 23, 24, 25, 26, 27] (by decide +kernel) (by decide +kernel)) (goodIn_sub (fun _ h => List.mem_cons_of_mem _ (List.mem_append_right _ h)) (by decide +kernel))
set_option maxRecDepth 20000 in
theorem gL_valueAt_X3_valueAt : GoodIn wsL_valueAt (wsV RL 36 RX3 yX3_valueAt wsX3_valueAt) := goodIn_app (goodIn_of _ (by decide +kernel)) ggL_valueAt_X3_valueAt
theorem dL_valueAt_0 : decode cL_valueAt 0 = .ok (.aload_n 3, 1) := by decide +kernel
theorem dL_valueAt_1 : decode cL_valueAt 1 = .ok (.iconst 0, 1) := by decide +kernel
theorem dL_valueAt_2 : decode cL_valueAt 2 = .ok (.aload_n 0, 1) := by decide +kernel
theorem dL_valueAt_3 : decode cL_valueAt 3 = .ok (.iload_n 1, 1) := by decide +kernel
theorem dL_valueAt_4 : decode cL_valueAt 4 = .ok (.iload_n 2, 1) := by decide +kernel
theorem dL_valueAt_5 : decode cL_valueAt 5 = .ok (.invokevirtual 36, 3) := by decide +kernel
theorem dL_valueAt_8 : decode cL_valueAt 8 = .ok (.i2l, 1) := by decide +kernel
theorem dL_valueAt_9 : decode cL_valueAt 9 = .ok (.lastore, 1) := by decide +kernel
theorem dL_valueAt_10 : decode cL_valueAt 10 = .ok (.goto 7, 3) := by decide +kernel
theorem dL_valueAt_13 : decode cL_valueAt 13 = .ok (.astore 4, 2) := by decide +kernel
theorem dL_valueAt_15 : decode cL_valueAt 15 = .ok (.iconst 1, 1) := by decide +kernel
theorem dL_valueAt_16 : decode cL_valueAt 16 = .ok (.ireturn, 1) := by decide +kernel
theorem dL_valueAt_17 : decode cL_valueAt 17 = .ok (.iconst 0, 1) := by decide +kernel
theorem dL_valueAt_18 : decode cL_valueAt 18 = .ok (.ireturn, 1) := by decide +kernel
set_option maxRecDepth 20000 in
theorem ggL_history_X3_history : GoodIn wsL_history wsX3_history := goodIn_ca (goodIn_r _ [6, 7, 8, 9, 10, 11, 12, 5, 13, 14, 15, 16, 17, 18, 19, 20, 21, 22, 23, 24] (by decide +kernel) (by decide +kernel)) (goodIn_sub (fun _ h => List.mem_cons_of_mem _ (List.mem_append_right _ h)) (by decide +kernel))
set_option maxRecDepth 20000 in
theorem gL_history_X3_history : GoodIn wsL_history (wsV RL 39 RX3 yX3_history wsX3_history) := goodIn_app (goodIn_of _ (by decide +kernel)) ggL_history_X3_history
theorem dL_history_0 : decode cL_history 0 = .ok (.aload_n 2, 1) := by decide +kernel
theorem dL_history_1 : decode cL_history 1 = .ok (.iconst 0, 1) := by decide +kernel
theorem dL_history_2 : decode cL_history 2 = .ok (.aload_n 0, 1) := by decide +kernel
theorem dL_history_3 : decode cL_history 3 = .ok (.iload_n 1, 1) := by decide +kernel
theorem dL_history_4 : decode cL_history 4 = .ok (.invokevirtual 39, 3) := by decide +kernel
theorem dL_history_7 : decode cL_history 7 = .ok (.i2l, 1) := by decide +kernel
theorem dL_history_8 : decode cL_history 8 = .ok (.lastore, 1) := by decide +kernel
theorem dL_history_9 : decode cL_history 9 = .ok (.goto 6, 3) := by decide +kernel
theorem dL_history_12 : decode cL_history 12 = .ok (.astore_n 3, 1) := by decide +kernel
theorem dL_history_13 : decode cL_history 13 = .ok (.iconst 1, 1) := by decide +kernel
theorem dL_history_14 : decode cL_history 14 = .ok (.ireturn, 1) := by decide +kernel
theorem dL_history_15 : decode cL_history 15 = .ok (.iconst 0, 1) := by decide +kernel
theorem dL_history_16 : decode cL_history 16 = .ok (.ireturn, 1) := by decide +kernel
set_option maxRecDepth 20000 in
theorem ggL_sent_X3_sent : GoodIn wsL_sent wsX3_sent := goodIn_ca (goodIn_r _ [6, 7, 8, 9, 10, 11, 12, 5, 13, 14, 15, 16, 17, 18, 19, 20, 21, 22, 23, 24] (by decide +kernel) (by decide +kernel)) (goodIn_sub (fun _ h => List.mem_cons_of_mem _ (List.mem_append_right _ h)) (by decide +kernel))
set_option maxRecDepth 20000 in
theorem gL_sent_X3_sent : GoodIn wsL_sent (wsV RL 42 RX3 yX3_sent wsX3_sent) := goodIn_app (goodIn_of _ (by decide +kernel)) ggL_sent_X3_sent
theorem dL_sent_0 : decode cL_sent 0 = .ok (.aload_n 2, 1) := by decide +kernel
theorem dL_sent_1 : decode cL_sent 1 = .ok (.iconst 0, 1) := by decide +kernel
theorem dL_sent_2 : decode cL_sent 2 = .ok (.aload_n 0, 1) := by decide +kernel
theorem dL_sent_3 : decode cL_sent 3 = .ok (.iload_n 1, 1) := by decide +kernel
theorem dL_sent_4 : decode cL_sent 4 = .ok (.invokevirtual 42, 3) := by decide +kernel
theorem dL_sent_7 : decode cL_sent 7 = .ok (.i2l, 1) := by decide +kernel
theorem dL_sent_8 : decode cL_sent 8 = .ok (.lastore, 1) := by decide +kernel
theorem dL_sent_9 : decode cL_sent 9 = .ok (.goto 6, 3) := by decide +kernel
theorem dL_sent_12 : decode cL_sent 12 = .ok (.astore_n 3, 1) := by decide +kernel
theorem dL_sent_13 : decode cL_sent 13 = .ok (.iconst 1, 1) := by decide +kernel
theorem dL_sent_14 : decode cL_sent 14 = .ok (.ireturn, 1) := by decide +kernel
theorem dL_sent_15 : decode cL_sent 15 = .ok (.iconst 0, 1) := by decide +kernel
theorem dL_sent_16 : decode cL_sent 16 = .ok (.ireturn, 1) := by decide +kernel
set_option maxRecDepth 20000 in
theorem ggL_waiting_X3_waiting : GoodIn wsL_waiting wsX3_waiting := goodIn_ca (goodIn_r _ [6, 7, 8, 9, 10, 11, 5, 12, 13, 14, 15, 16, 17, 18, 19, 20, 21, 22, 23, 24, 25, 26, 27, 28, 29, 30, 31, 32, 33, 34, 35, 36, 37, 38, 39, 40, 41, 42, 43, 44, 45, 46, 47, 48, 49, 50, 51, 52] (by decide +kernel) (by decide +kernel)) (goodIn_sub (fun _ h => List.mem_cons_of_mem _ (List.mem_append_right _ h)) (by decide +kernel))
set_option maxRecDepth 20000 in
theorem gL_waiting_X3_waiting : GoodIn wsL_waiting (wsV RL 45 RX3 yX3_waiting wsX3_waiting) := goodIn_app (goodIn_of _ (by decide +kernel)) ggL_waiting_X3_waiting
theorem dL_waiting_0 : decode cL_waiting 0 = .ok (.aload_n 2, 1) := by decide +kernel
theorem dL_waiting_1 : decode cL_waiting 1 = .ok (.iconst 0, 1) := by decide +kernel
theorem dL_waiting_2 : decode cL_waiting 2 = .ok (.aload_n 0, 1) := by decide +kernel
theorem dL_waiting_3 : decode cL_waiting 3 = .ok (.iload_n 1, 1) := by decide +kernel
theorem dL_waiting_4 : decode cL_waiting 4 = .ok (.invokevirtual 45, 3) := by decide +kernel
theorem dL_waiting_7 : decode cL_waiting 7 = .ok (.i2l, 1) := by decide +kernel
theorem dL_waiting_8 : decode cL_waiting 8 = .ok (.lastore, 1) := by decide +kernel
theorem dL_waiting_9 : decode cL_waiting 9 = .ok (.goto 6, 3) := by decide +kernel
theorem dL_waiting_12 : decode cL_waiting 12 = .ok (.astore_n 3, 1) := by decide +kernel
theorem dL_waiting_13 : decode cL_waiting 13 = .ok (.iconst 1, 1) := by decide +kernel
theorem dL_waiting_14 : decode cL_waiting 14 = .ok (.ireturn, 1) := by decide +kernel
theorem dL_waiting_15 : decode cL_waiting 15 = .ok (.iconst 0, 1) := by decide +kernel
theorem dL_waiting_16 : decode cL_waiting 16 = .ok (.ireturn, 1) := by decide +kernel
set_option maxRecDepth 20000 in
theorem ggL_law_L_cell : GoodIn wsL_law wsL_cell := goodIn_r _ [10] (by decide +kernel) (by decide +kernel)
set_option maxRecDepth 20000 in
theorem gL_law_L_cell : GoodIn wsL_law (va_wsS RL 48 yL_cell wsL_cell) := goodIn_app (goodIn_of _ (by decide +kernel)) ggL_law_L_cell
set_option maxRecDepth 20000 in
theorem ggL_law_X3_init : GoodIn wsL_law wsX3_init := goodIn_r _ [13, 14, 15, 16, 17, 18, 19, 20, 21, 22, 23, 24, 25, 26, 27, 28, 29, 30, 31, 32, 33, 34, 35, 36, 37, 38, 39, 40, 41, 42, 43, 44, 45, 46, 47, 48, 49, 50, 51, 52, 352, 353, 354, 355, 356, 357, 369, 370, 371, 372, 373, 374, 375, 376, 377, 378, 379] (by decide +kernel) (by decide +kernel)
set_option maxRecDepth 20000 in
theorem gL_law_X3_init : GoodIn wsL_law (wsX3_init) := ggL_law_X3_init
set_option maxRecDepth 20000 in
theorem ggL_law_X4_init : GoodIn wsL_law wsX4_init := goodIn_r _ [55, 56, 15, 16, 17, 57, 58, 59, 60, 61, 62, 63, 64, 65, 66, 358, 359, 360, 361, 362, 363, 364, 365, 366, 367, 368] (by decide +kernel) (by decide +kernel)
set_option maxRecDepth 20000 in
theorem gL_law_X4_init : GoodIn wsL_law (wsX4_init) := ggL_law_X4_init
set_option maxRecDepth 20000 in
theorem ggL_law_L_write : GoodIn wsL_law wsL_write := goodIn_ca (goodIn_ca (goodIn_r _ [69, 70, 71, 72, 73, 74, 2, 75, 76, 77, 78, 79, 18, 19, 80, 81, 82, 83, 84, 85, 86, 22, 23, 87, 88, 89, 90, 91, 92, 93, 94, 24, 95, 96, 97, 98, 20, 99, 100, 101, 33, 102, 46, 45, 103, 104, 105, 43, 106, 52, 50, 51, 107, 108, 109, 110, 44, 369, 370, 371, 372, 373, 352, 353, 354, 355, 356, 357, 374, 375, 376, 377, 378, 379] (by decide +kernel) (by decide +kernel)) (goodIn_sub (fun _ h => List.mem_append_left _ (List.mem_append_left _ (List.mem_append_right _ h))) (by decide +kernel))) (goodIn_sub (fun _ h => List.mem_append_left _ (List.mem_append_right _ h)) (by decide +kernel))
set_option maxRecDepth 20000 in
theorem gL_law_L_write : GoodIn wsL_law (va_wsS RL 60 yL_write wsL_write) := goodIn_app (goodIn_of _ (by decide +kernel)) ggL_law_L_write
set_option maxRecDepth 20000 in
theorem ggL_law_X4_write : GoodIn wsL_law wsX4_write := goodIn_r _ [114, 59, 61, 115, 116, 117, 5, 118, 57, 119, 120, 121, 122, 123, 124, 125, 126, 127, 63, 64, 62, 128, 129, 130, 131, 132, 66, 358, 359, 360, 361, 362, 363, 364, 365, 366, 367, 368] (by decide +kernel) (by decide +kernel)
set_option maxRecDepth 20000 in
theorem gL_law_X4_write : GoodIn wsL_law (wsV RL 63 RX4 yX4_write wsX4_write) := goodIn_app (goodIn_of _ (by decide +kernel)) ggL_law_X4_write
set_option maxRecDepth 20000 in
theorem ggL_law_X4_thrown : GoodIn wsL_law wsX4_thrown := goodIn_r _ [136, 123, 358, 359, 360, 361, 362, 363, 364, 365, 366, 367, 368] (by decide +kernel) (by decide +kernel)
set_option maxRecDepth 20000 in
theorem gL_law_X4_thrown : GoodIn wsL_law (wsV RL 64 RX4 yX4_thrown wsX4_thrown) := goodIn_app (goodIn_of _ (by decide +kernel)) ggL_law_X4_thrown
set_option maxRecDepth 20000 in
theorem ggL_law_L_read : GoodIn wsL_law wsL_read := goodIn_ca (goodIn_ca (goodIn_r _ [139, 70, 71, 140, 141, 142, 2, 143, 76, 77, 78, 79, 24, 80, 81, 82, 83, 84, 85, 86, 22, 23, 352, 353, 354, 355, 356, 357, 369, 370, 371, 372, 373] (by decide +kernel) (by decide +kernel)) (goodIn_sub (fun _ h => List.mem_append_left _ (List.mem_append_left _ (List.mem_append_right _ h))) (by decide +kernel))) (goodIn_sub (fun _ h => List.mem_append_left _ (List.mem_append_right _ h)) (by decide +kernel))
set_option maxRecDepth 20000 in
theorem gL_law_L_read : GoodIn wsL_law (va_wsS RL 68 yL_read wsL_read) := goodIn_app (goodIn_of _ (by decide +kernel)) ggL_law_L_read
set_option maxRecDepth 20000 in
theorem ggL_law_X4_read : GoodIn wsL_law wsX4_read := goodIn_r _ [147, 59, 129, 130, 131, 5, 132, 57, 66, 119, 120, 121, 122, 123, 148, 149, 150, 151, 61, 63, 64, 358, 359, 360, 361, 362, 363, 364, 365, 366, 367, 368] (by decide +kernel) (by decide +kernel)
set_option maxRecDepth 20000 in
theorem gL_law_X4_read : GoodIn wsL_law (wsV RL 71 RX4 yX4_read wsX4_read) := goodIn_app (goodIn_of _ (by decide +kernel)) ggL_law_X4_read
set_option maxRecDepth 20000 in
theorem ggL_law_L_deliver : GoodIn wsL_law wsL_deliver := goodIn_ca (goodIn_ca (goodIn_ca (goodIn_r _ [154, 70, 71, 155, 156, 157, 158, 2, 159, 76, 77, 78, 79, 160, 161, 22, 162, 163, 164, 165, 166, 167, 168, 169, 24, 23, 170, 171, 172, 173, 83, 84, 85, 86, 174, 175, 176, 43, 177, 50, 51, 52, 87, 88, 89, 90, 18, 19, 91, 92, 93, 94, 95, 96, 97, 98, 20, 99, 100, 101, 33, 102, 46, 45, 103, 104, 105, 106, 107, 108, 109, 110, 44, 352, 353, 354, 355, 356, 357, 369, 370, 371, 372, 373, 374, 375, 376, 377, 378, 379] (by decide +kernel) (by decide +kernel)) (goodIn_sub (fun _ h => List.mem_append_left _ (List.mem_append_left _ (List.mem_append_right _ h))) (by decide +kernel))) (goodIn_sub (fun _ h => List.mem_append_left _ (List.mem_append_right _ h)) (by decide +kernel))) (goodIn_sub (fun _ h => List.mem_append_right _ h) (by decide +kernel))
set_option maxRecDepth 20000 in
theorem gL_law_L_deliver : GoodIn wsL_law (va_wsS RL 72 yL_deliver wsL_deliver) := goodIn_app (goodIn_of _ (by decide +kernel)) ggL_law_L_deliver
set_option maxRecDepth 20000 in
theorem ggL_law_X4_deliver : GoodIn wsL_law wsX4_deliver := goodIn_r _ [181, 59, 57, 61, 63, 64, 182, 183, 184, 5, 185, 65, 186, 187, 188, 189, 60, 190, 191, 192, 193, 66, 119, 120, 121, 122, 123, 124, 125, 126, 127, 62, 128, 129, 130, 131, 132, 358, 359, 360, 361, 362, 363, 364, 365, 366, 367, 368] (by decide +kernel) (by decide +kernel)
set_option maxRecDepth 20000 in
theorem gL_law_X4_deliver : GoodIn wsL_law (wsV RL 74 RX4 yX4_deliver wsX4_deliver) := goodIn_app (goodIn_of _ (by decide +kernel)) ggL_law_X4_deliver
set_option maxRecDepth 20000 in
theorem ggL_law_L_acknowledge : GoodIn wsL_law wsL_acknowledge := goodIn_ca (goodIn_ca (goodIn_ca (goodIn_r _ [196, 70, 71, 155, 197, 198, 199, 2, 200, 76, 77, 78, 79, 160, 161, 22, 162, 163, 164, 165, 166, 167, 168, 169, 24, 23, 201, 202, 203, 204, 91, 92, 93, 94, 83, 84, 85, 86, 174, 175, 176, 43, 177, 50, 51, 52, 95, 96, 97, 98, 20, 99, 100, 101, 33, 102, 46, 45, 103, 104, 105, 106, 352, 353, 354, 355, 356, 357, 369, 370, 371, 372, 373, 374, 375, 376, 377, 378, 379] (by decide +kernel) (by decide +kernel)) (goodIn_sub (fun _ h => List.mem_append_left _ (List.mem_append_left _ (List.mem_append_right _ h))) (by decide +kernel))) (goodIn_sub (fun _ h => List.mem_append_left _ (List.mem_append_right _ h)) (by decide +kernel))) (goodIn_sub (fun _ h => List.mem_append_right _ h) (by decide +kernel))
set_option maxRecDepth 20000 in
theorem gL_law_L_acknowledge : GoodIn wsL_law (va_wsS RL 75 yL_acknowledge wsL_acknowledge) := goodIn_app (goodIn_of _ (by decide +kernel)) ggL_law_L_acknowledge
set_option maxRecDepth 20000 in
theorem ggL_law_X4_acknowledge : GoodIn wsL_law wsX4_acknowledge := goodIn_r _ [208, 59, 62, 182, 183, 184, 5, 185, 65, 209, 210, 211, 212, 66, 60, 57, 190, 191, 192, 193, 119, 120, 121, 122, 123, 358, 359, 360, 361, 362, 363, 364, 365, 366, 367, 368] (by decide +kernel) (by decide +kernel)
set_option maxRecDepth 20000 in
theorem gL_law_X4_acknowledge : GoodIn wsL_law (wsV RL 77 RX4 yX4_acknowledge wsX4_acknowledge) := goodIn_app (goodIn_of _ (by decide +kernel)) ggL_law_X4_acknowledge
set_option maxRecDepth 20000 in
theorem ggL_law_L_fail : GoodIn wsL_law wsL_fail := goodIn_ca (goodIn_r _ [215, 70, 216, 217, 218, 2, 219, 76, 77, 22, 162, 163, 164, 165, 220, 221, 222, 223, 166, 167, 168, 169, 24, 23, 224, 225, 226, 227, 83, 84, 85, 86, 228, 229, 230, 33, 231, 46, 44, 45, 232, 233, 234, 43, 235, 52, 352, 353, 354, 355, 356, 357, 369, 370, 371, 372, 373, 374, 375, 376, 377, 378, 379] (by decide +kernel) (by decide +kernel)) (goodIn_sub (fun _ h => List.mem_append_left _ (List.mem_append_left _ (List.mem_append_right _ h))) (by decide +kernel))
set_option maxRecDepth 20000 in
theorem gL_law_L_fail : GoodIn wsL_law (va_wsS RL 78 yL_fail wsL_fail) := goodIn_app (goodIn_of _ (by decide +kernel)) ggL_law_L_fail
set_option maxRecDepth 20000 in
theorem ggL_law_X4_fail : GoodIn wsL_law wsX4_fail := goodIn_r _ [239, 65, 59, 60, 57, 182, 183, 184, 5, 185, 119, 120, 121, 122, 123, 190, 191, 192, 193, 66, 358, 359, 360, 361, 362, 363, 364, 365, 366, 367, 368] (by decide +kernel) (by decide +kernel)
set_option maxRecDepth 20000 in
theorem gL_law_X4_fail : GoodIn wsL_law (wsV RL 80 RX4 yX4_fail wsX4_fail) := goodIn_app (goodIn_of _ (by decide +kernel)) ggL_law_X4_fail
set_option maxRecDepth 20000 in
theorem ggL_law_X3_repair : GoodIn wsL_law wsX3_repair := goodIn_r _ [243, 24, 244, 245, 246, 2, 247, 23, 248, 249, 250, 251, 83, 84, 85, 86, 22, 252, 253, 254, 255, 95, 96, 97, 98, 20, 91, 92, 93, 94, 99, 100, 101, 33, 102, 46, 45, 103, 104, 105, 43, 106, 52, 50, 51, 352, 353, 354, 355, 356, 357, 369, 370, 371, 372, 373, 374, 375, 376, 377, 378, 379] (by decide +kernel) (by decide +kernel)
set_option maxRecDepth 20000 in
theorem gL_law_X3_repair : GoodIn wsL_law (wsV RL 81 RX3 yX3_repair wsX3_repair) := goodIn_app (goodIn_of _ (by decide +kernel)) ggL_law_X3_repair
set_option maxRecDepth 20000 in
theorem ggL_law_X4_repair : GoodIn wsL_law wsX4_repair := goodIn_r _ [259, 123, 66, 59, 57, 62, 61, 128, 129, 130, 131, 5, 132, 358, 359, 360, 361, 362, 363, 364, 365, 366, 367, 368] (by decide +kernel) (by decide +kernel)
set_option maxRecDepth 20000 in
theorem gL_law_X4_repair : GoodIn wsL_law (wsV RL 84 RX4 yX4_repair wsX4_repair) := goodIn_app (goodIn_of _ (by decide +kernel)) ggL_law_X4_repair
set_option maxRecDepth 20000 in
theorem ggL_law_L_resync : GoodIn wsL_law wsL_resync := goodIn_ca (goodIn_ca (goodIn_r _ [262, 70, 71, 263, 264, 265, 2, 266, 76, 77, 78, 79, 267, 268, 269, 270, 162, 163, 164, 165, 22, 166, 167, 168, 169, 24, 23, 271, 272, 273, 274, 91, 92, 93, 94, 83, 84, 85, 86, 107, 108, 109, 33, 110, 46, 44, 103, 104, 105, 43, 106, 52, 50, 51, 99, 100, 101, 102, 45, 369, 370, 371, 372, 373, 374, 375, 376, 377, 378, 379, 352, 353, 354, 355, 356, 357] (by decide +kernel) (by decide +kernel)) (goodIn_sub (fun _ h => List.mem_append_left _ (List.mem_append_left _ (List.mem_append_right _ h))) (by decide +kernel))) (goodIn_sub (fun _ h => List.mem_append_left _ (List.mem_append_right _ h)) (by decide +kernel))
set_option maxRecDepth 20000 in
theorem gL_law_L_resync : GoodIn wsL_law (va_wsS RL 85 yL_resync wsL_resync) := goodIn_app (goodIn_of _ (by decide +kernel)) ggL_law_L_resync
set_option maxRecDepth 20000 in
theorem ggL_law_X4_resync : GoodIn wsL_law wsX4_resync := goodIn_r _ [278, 59, 66, 57, 60, 61, 182, 183, 184, 5, 185, 65, 190, 191, 192, 193, 119, 120, 121, 122, 123, 358, 359, 360, 361, 362, 363, 364, 365, 366, 367, 368] (by decide +kernel) (by decide +kernel)
set_option maxRecDepth 20000 in
theorem gL_law_X4_resync : GoodIn wsL_law (wsV RL 87 RX4 yX4_resync wsX4_resync) := goodIn_app (goodIn_of _ (by decide +kernel)) ggL_law_X4_resync
set_option maxRecDepth 20000 in
theorem ggL_law_X3_replied : GoodIn wsL_law wsX3_replied := goodIn_r _ [282, 20, 352, 353, 354, 355, 356, 357] (by decide +kernel) (by decide +kernel)
set_option maxRecDepth 20000 in
theorem gL_law_X3_replied : GoodIn wsL_law (wsV RL 88 RX3 yX3_replied wsX3_replied) := goodIn_app (goodIn_of _ (by decide +kernel)) ggL_law_X3_replied
set_option maxRecDepth 20000 in
theorem ggL_law_X4_replied : GoodIn wsL_law wsX4_replied := goodIn_r _ [286, 123, 128, 358, 359, 360, 361, 362, 363, 364, 365, 366, 367, 368] (by decide +kernel) (by decide +kernel)
set_option maxRecDepth 20000 in
theorem gL_law_X4_replied : GoodIn wsL_law (wsV RL 91 RX4 yX4_replied wsX4_replied) := goodIn_app (goodIn_of _ (by decide +kernel)) ggL_law_X4_replied
set_option maxRecDepth 20000 in
theorem ggL_law_X3_head : GoodIn wsL_law wsX3_head := goodIn_r _ [290, 23, 352, 353, 354, 355, 356, 357] (by decide +kernel) (by decide +kernel)
set_option maxRecDepth 20000 in
theorem gL_law_X3_head : GoodIn wsL_law (wsV RL 92 RX3 yX3_head wsX3_head) := goodIn_app (goodIn_of _ (by decide +kernel)) ggL_law_X3_head
set_option maxRecDepth 20000 in
theorem ggL_law_X4_head : GoodIn wsL_law wsX4_head := goodIn_r _ [294, 123, 115, 116, 117, 5, 118, 57, 358, 359, 360, 361, 362, 363, 364, 365, 366, 367, 368] (by decide +kernel) (by decide +kernel)
set_option maxRecDepth 20000 in
theorem gL_law_X4_head : GoodIn wsL_law (wsV RL 95 RX4 yX4_head wsX4_head) := goodIn_app (goodIn_of _ (by decide +kernel)) ggL_law_X4_head
set_option maxRecDepth 20000 in
theorem ggL_law_X3_tail : GoodIn wsL_law wsX3_tail := goodIn_r _ [247, 23, 24, 352, 353, 354, 355, 356, 357] (by decide +kernel) (by decide +kernel)
set_option maxRecDepth 20000 in
theorem gL_law_X3_tail : GoodIn wsL_law (wsV RL 96 RX3 yX3_tail wsX3_tail) := goodIn_app (goodIn_of _ (by decide +kernel)) ggL_law_X3_tail
set_option maxRecDepth 20000 in
theorem ggL_law_X4_tail : GoodIn wsL_law wsX4_tail := goodIn_r _ [299, 123, 129, 130, 131, 5, 132, 57, 66, 358, 359, 360, 361, 362, 363, 364, 365, 366, 367, 368] (by decide +kernel) (by decide +kernel)
set_option maxRecDepth 20000 in
theorem gL_law_X4_tail : GoodIn wsL_law (wsV RL 99 RX4 yX4_tail wsX4_tail) := goodIn_app (goodIn_of _ (by decide +kernel)) ggL_law_X4_tail
set_option maxRecDepth 20000 in
theorem ggL_law_L_valueAt : GoodIn wsL_law wsL_valueAt := goodIn_ca (goodIn_r _ [302, 70, 303, 304, 305, 2, 306, 76, 77, 22, 162, 163, 164, 165, 80, 81, 82, 352, 353, 354, 355, 356, 357, 369, 370, 371, 372, 373] (by decide +kernel) (by decide +kernel)) (goodIn_sub (fun _ h => List.mem_append_left _ (List.mem_append_left _ (List.mem_append_right _ h))) (by decide +kernel))
set_option maxRecDepth 20000 in
theorem gL_law_L_valueAt : GoodIn wsL_law (va_wsS RL 100 yL_valueAt wsL_valueAt) := goodIn_app (goodIn_of _ (by decide +kernel)) ggL_law_L_valueAt
set_option maxRecDepth 20000 in
theorem ggL_law_X4_valueAt : GoodIn wsL_law wsX4_valueAt := goodIn_r _ [310, 182, 183, 184, 5, 185, 65, 119, 120, 121, 122, 123, 148, 149, 150, 151, 61, 63, 64, 358, 359, 360, 361, 362, 363, 364, 365, 366, 367, 368] (by decide +kernel) (by decide +kernel)
set_option maxRecDepth 20000 in
theorem gL_law_X4_valueAt : GoodIn wsL_law (wsV RL 102 RX4 yX4_valueAt wsX4_valueAt) := goodIn_app (goodIn_of _ (by decide +kernel)) ggL_law_X4_valueAt
set_option maxRecDepth 20000 in
theorem ggL_law_L_history : GoodIn wsL_law wsL_history := goodIn_ca (goodIn_r _ [313, 70, 314, 315, 316, 2, 317, 76, 77, 22, 162, 163, 164, 165, 352, 353, 354, 355, 356, 357, 369, 370, 371, 372, 373] (by decide +kernel) (by decide +kernel)) (goodIn_sub (fun _ h => List.mem_append_left _ (List.mem_append_left _ (List.mem_append_right _ h))) (by decide +kernel))
set_option maxRecDepth 20000 in
theorem gL_law_L_history : GoodIn wsL_law (va_wsS RL 103 yL_history wsL_history) := goodIn_app (goodIn_of _ (by decide +kernel)) ggL_law_L_history
set_option maxRecDepth 20000 in
theorem ggL_law_X4_history : GoodIn wsL_law wsX4_history := goodIn_r _ [321, 61, 182, 183, 184, 5, 185, 65, 119, 120, 121, 122, 123, 358, 359, 360, 361, 362, 363, 364, 365, 366, 367, 368] (by decide +kernel) (by decide +kernel)
set_option maxRecDepth 20000 in
theorem gL_law_X4_history : GoodIn wsL_law (wsV RL 105 RX4 yX4_history wsX4_history) := goodIn_app (goodIn_of _ (by decide +kernel)) ggL_law_X4_history
set_option maxRecDepth 20000 in
theorem ggL_law_L_sent : GoodIn wsL_law wsL_sent := goodIn_ca (goodIn_r _ [324, 70, 325, 326, 327, 2, 328, 76, 77, 22, 162, 163, 164, 165, 352, 353, 354, 355, 356, 357, 369, 370, 371, 372, 373] (by decide +kernel) (by decide +kernel)) (goodIn_sub (fun _ h => List.mem_append_left _ (List.mem_append_left _ (List.mem_append_right _ h))) (by decide +kernel))
set_option maxRecDepth 20000 in
theorem gL_law_L_sent : GoodIn wsL_law (va_wsS RL 106 yL_sent wsL_sent) := goodIn_app (goodIn_of _ (by decide +kernel)) ggL_law_L_sent
set_option maxRecDepth 20000 in
theorem ggL_law_X4_sent : GoodIn wsL_law wsX4_sent := goodIn_r _ [332, 61, 62, 182, 183, 184, 5, 185, 65, 119, 120, 121, 122, 123, 358, 359, 360, 361, 362, 363, 364, 365, 366, 367, 368] (by decide +kernel) (by decide +kernel)
set_option maxRecDepth 20000 in
theorem gL_law_X4_sent : GoodIn wsL_law (wsV RL 108 RX4 yX4_sent wsX4_sent) := goodIn_app (goodIn_of _ (by decide +kernel)) ggL_law_X4_sent
set_option maxRecDepth 20000 in
theorem ggL_law_L_waiting : GoodIn wsL_law wsL_waiting := goodIn_ca (goodIn_r _ [335, 70, 336, 337, 338, 2, 339, 76, 77, 162, 163, 164, 165, 22, 166, 167, 168, 169, 24, 23, 170, 171, 172, 173, 83, 84, 85, 86, 201, 202, 203, 204, 91, 92, 93, 94, 352, 353, 354, 355, 356, 357, 369, 370, 371, 372, 373, 374, 375, 376, 377, 378, 379] (by decide +kernel) (by decide +kernel)) (goodIn_sub (fun _ h => List.mem_append_left _ (List.mem_append_left _ (List.mem_append_right _ h))) (by decide +kernel))
set_option maxRecDepth 20000 in
theorem gL_law_L_waiting : GoodIn wsL_law (va_wsS RL 109 yL_waiting wsL_waiting) := goodIn_app (goodIn_of _ (by decide +kernel)) ggL_law_L_waiting
set_option maxRecDepth 20000 in
theorem ggL_law_X4_waiting : GoodIn wsL_law wsX4_waiting := goodIn_r _ [343, 182, 183, 184, 5, 185, 65, 119, 120, 121, 122, 123, 186, 187, 188, 189, 60, 57, 61, 190, 191, 192, 193, 66, 209, 210, 211, 212, 62, 358, 359, 360, 361, 362, 363, 364, 365, 366, 367, 368] (by decide +kernel) (by decide +kernel)
set_option maxRecDepth 20000 in
theorem gL_law_X4_waiting : GoodIn wsL_law (wsV RL 111 RX4 yX4_waiting wsX4_waiting) := goodIn_app (goodIn_of _ (by decide +kernel)) ggL_law_X4_waiting
set_option maxRecDepth 20000 in
theorem ggL_law_X3_lag : GoodIn wsL_law wsX3_lag := goodIn_r _ [347, 24, 83, 84, 85, 2, 86, 22, 23, 352, 353, 354, 355, 356, 357, 369, 370, 371, 372, 373] (by decide +kernel) (by decide +kernel)
set_option maxRecDepth 20000 in
theorem gL_law_X3_lag : GoodIn wsL_law (wsV RL 112 RX3 yX3_lag wsX3_lag) := goodIn_app (goodIn_of _ (by decide +kernel)) ggL_law_X3_lag
set_option maxRecDepth 20000 in
theorem ggL_law_X4_lag : GoodIn wsL_law wsX4_lag := goodIn_r _ [351, 123, 66, 59, 57, 61, 358, 359, 360, 361, 362, 363, 364, 365, 366, 367, 368] (by decide +kernel) (by decide +kernel)
set_option maxRecDepth 20000 in
theorem gL_law_X4_lag : GoodIn wsL_law (wsV RL 116 RX4 yX4_lag wsX4_lag) := goodIn_app (goodIn_of _ (by decide +kernel)) ggL_law_X4_lag
theorem dL_law_0 : decode cL_law 0 = .ok (.new 8, 3) := by decide +kernel
theorem dL_law_3 : decode cL_law 3 = .ok (.dup, 1) := by decide +kernel
theorem dL_law_4 : decode cL_law 4 = .ok (.aload_n 0, 1) := by decide +kernel
theorem dL_law_5 : decode cL_law 5 = .ok (.iconst 0, 1) := by decide +kernel
theorem dL_law_6 : decode cL_law 6 = .ok (.invokestatic 48, 3) := by decide +kernel
theorem dL_law_9 : decode cL_law 9 = .ok (.invokespecial 54, 3) := by decide +kernel
theorem dL_law_12 : decode cL_law 12 = .ok (.astore_n 1, 1) := by decide +kernel
theorem dL_law_13 : decode cL_law 13 = .ok (.new 57, 3) := by decide +kernel
theorem dL_law_16 : decode cL_law 16 = .ok (.dup, 1) := by decide +kernel
theorem dL_law_17 : decode cL_law 17 = .ok (.aload_n 0, 1) := by decide +kernel
theorem dL_law_18 : decode cL_law 18 = .ok (.iconst 0, 1) := by decide +kernel
theorem dL_law_19 : decode cL_law 19 = .ok (.invokestatic 48, 3) := by decide +kernel
theorem dL_law_22 : decode cL_law 22 = .ok (.invokespecial 59, 3) := by decide +kernel
theorem dL_law_25 : decode cL_law 25 = .ok (.astore_n 2, 1) := by decide +kernel
theorem dL_law_26 : decode cL_law 26 = .ok (.iconst 1, 1) := by decide +kernel
theorem dL_law_27 : decode cL_law 27 = .ok (.newarray .long, 2) := by decide +kernel
theorem dL_law_29 : decode cL_law 29 = .ok (.astore_n 3, 1) := by decide +kernel
theorem dL_law_30 : decode cL_law 30 = .ok (.iconst 1, 1) := by decide +kernel
theorem dL_law_31 : decode cL_law 31 = .ok (.istore 4, 2) := by decide +kernel
theorem dL_law_33 : decode cL_law 33 = .ok (.iload 4, 2) := by decide +kernel
theorem dL_law_35 : decode cL_law 35 = .ok (.aload_n 0, 1) := by decide +kernel
theorem dL_law_36 : decode cL_law 36 = .ok (.arraylength, 1) := by decide +kernel
theorem dL_law_37 : decode cL_law 37 = .ok (.iconst 3, 1) := by decide +kernel
theorem dL_law_38 : decode cL_law 38 = .ok (.isub, 1) := by decide +kernel
theorem dL_law_39 : decode cL_law 39 = .ok (.if_icmp .gt 787, 3) := by decide +kernel
theorem dL_law_42 : decode cL_law 42 = .ok (.aload_n 0, 1) := by decide +kernel
theorem dL_law_43 : decode cL_law 43 = .ok (.iload 4, 2) := by decide +kernel
theorem dL_law_45 : decode cL_law 45 = .ok (.iaload, 1) := by decide +kernel
theorem dL_law_46 : decode cL_law 46 = .ok (.bipush 15, 2) := by decide +kernel
theorem dL_law_48 : decode cL_law 48 = .ok (.iand, 1) := by decide +kernel
theorem dL_law_49 : decode cL_law 49 = .ok (.tableswitch 771 0 14 #[75, 143, 199, 255, 311, 374, 387, 443, 468, 481, 494, 562, 618, 674, 730], 75) := by decide +kernel
theorem dL_law_124 : decode cL_law 124 = .ok (.aload_n 1, 1) := by decide +kernel
theorem dL_law_125 : decode cL_law 125 = .ok (.aload_n 0, 1) := by decide +kernel
theorem dL_law_126 : decode cL_law 126 = .ok (.iload 4, 2) := by decide +kernel
theorem dL_law_128 : decode cL_law 128 = .ok (.iconst 1, 1) := by decide +kernel
theorem dL_law_129 : decode cL_law 129 = .ok (.iadd, 1) := by decide +kernel
theorem dL_law_130 : decode cL_law 130 = .ok (.iaload, 1) := by decide +kernel
theorem dL_law_131 : decode cL_law 131 = .ok (.aload_n 0, 1) := by decide +kernel
theorem dL_law_132 : decode cL_law 132 = .ok (.iload 4, 2) := by decide +kernel
theorem dL_law_134 : decode cL_law 134 = .ok (.iconst 2, 1) := by decide +kernel
theorem dL_law_135 : decode cL_law 135 = .ok (.iadd, 1) := by decide +kernel
theorem dL_law_136 : decode cL_law 136 = .ok (.iaload, 1) := by decide +kernel
theorem dL_law_137 : decode cL_law 137 = .ok (.aload_n 3, 1) := by decide +kernel
theorem dL_law_138 : decode cL_law 138 = .ok (.invokestatic 60, 3) := by decide +kernel
theorem dL_law_141 : decode cL_law 141 = .ok (.istore 5, 2) := by decide +kernel
theorem dL_law_143 : decode cL_law 143 = .ok (.aload_n 2, 1) := by decide +kernel
theorem dL_law_144 : decode cL_law 144 = .ok (.aload_n 0, 1) := by decide +kernel
theorem dL_law_145 : decode cL_law 145 = .ok (.iload 4, 2) := by decide +kernel
theorem dL_law_147 : decode cL_law 147 = .ok (.iconst 1, 1) := by decide +kernel
theorem dL_law_148 : decode cL_law 148 = .ok (.iadd, 1) := by decide +kernel
theorem dL_law_149 : decode cL_law 149 = .ok (.iaload, 1) := by decide +kernel
theorem dL_law_150 : decode cL_law 150 = .ok (.aload_n 0, 1) := by decide +kernel
theorem dL_law_151 : decode cL_law 151 = .ok (.iload 4, 2) := by decide +kernel
theorem dL_law_153 : decode cL_law 153 = .ok (.iconst 2, 1) := by decide +kernel
theorem dL_law_154 : decode cL_law 154 = .ok (.iadd, 1) := by decide +kernel
theorem dL_law_155 : decode cL_law 155 = .ok (.iaload, 1) := by decide +kernel
theorem dL_law_156 : decode cL_law 156 = .ok (.invokevirtual 63, 3) := by decide +kernel
theorem dL_law_159 : decode cL_law 159 = .ok (.istore 6, 2) := by decide +kernel
theorem dL_law_161 : decode cL_law 161 = .ok (.aload_n 2, 1) := by decide +kernel
theorem dL_law_162 : decode cL_law 162 = .ok (.invokevirtual 64, 3) := by decide +kernel
theorem dL_law_165 : decode cL_law 165 = .ok (.iload 5, 2) := by decide +kernel
theorem dL_law_167 : decode cL_law 167 = .ok (.if_icmp .eq 5, 3) := by decide +kernel
theorem dL_law_170 : decode cL_law 170 = .ok (.iconst 0, 1) := by decide +kernel
theorem dL_law_171 : decode cL_law 171 = .ok (.ireturn, 1) := by decide +kernel
theorem dL_law_172 : decode cL_law 172 = .ok (.iload 5, 2) := by decide +kernel
theorem dL_law_174 : decode cL_law 174 = .ok (.ifCond .ne 15, 3) := by decide +kernel
theorem dL_law_177 : decode cL_law 177 = .ok (.aload_n 3, 1) := by decide +kernel
theorem dL_law_178 : decode cL_law 178 = .ok (.iconst 0, 1) := by decide +kernel
theorem dL_law_179 : decode cL_law 179 = .ok (.laload, 1) := by decide +kernel
theorem dL_law_180 : decode cL_law 180 = .ok (.iload 6, 2) := by decide +kernel
theorem dL_law_182 : decode cL_law 182 = .ok (.i2l, 1) := by decide +kernel
theorem dL_law_183 : decode cL_law 183 = .ok (.lcmp, 1) := by decide +kernel
theorem dL_law_184 : decode cL_law 184 = .ok (.ifCond .eq 5, 3) := by decide +kernel
theorem dL_law_187 : decode cL_law 187 = .ok (.iconst 0, 1) := by decide +kernel
theorem dL_law_188 : decode cL_law 188 = .ok (.ireturn, 1) := by decide +kernel
theorem dL_law_189 : decode cL_law 189 = .ok (.goto 631, 3) := by decide +kernel
theorem dL_law_192 : decode cL_law 192 = .ok (.aload_n 1, 1) := by decide +kernel
theorem dL_law_193 : decode cL_law 193 = .ok (.aload_n 0, 1) := by decide +kernel
theorem dL_law_194 : decode cL_law 194 = .ok (.iload 4, 2) := by decide +kernel
theorem dL_law_196 : decode cL_law 196 = .ok (.iconst 1, 1) := by decide +kernel
theorem dL_law_197 : decode cL_law 197 = .ok (.iadd, 1) := by decide +kernel
theorem dL_law_198 : decode cL_law 198 = .ok (.iaload, 1) := by decide +kernel
theorem dL_law_199 : decode cL_law 199 = .ok (.aload_n 3, 1) := by decide +kernel
theorem dL_law_200 : decode cL_law 200 = .ok (.invokestatic 68, 3) := by decide +kernel
theorem dL_law_203 : decode cL_law 203 = .ok (.istore 5, 2) := by decide +kernel
theorem dL_law_205 : decode cL_law 205 = .ok (.aload_n 2, 1) := by decide +kernel
theorem dL_law_206 : decode cL_law 206 = .ok (.aload_n 0, 1) := by decide +kernel
theorem dL_law_207 : decode cL_law 207 = .ok (.iload 4, 2) := by decide +kernel
theorem dL_law_209 : decode cL_law 209 = .ok (.iconst 1, 1) := by decide +kernel
theorem dL_law_210 : decode cL_law 210 = .ok (.iadd, 1) := by decide +kernel
theorem dL_law_211 : decode cL_law 211 = .ok (.iaload, 1) := by decide +kernel
theorem dL_law_212 : decode cL_law 212 = .ok (.invokevirtual 71, 3) := by decide +kernel
theorem dL_law_215 : decode cL_law 215 = .ok (.istore 6, 2) := by decide +kernel
theorem dL_law_217 : decode cL_law 217 = .ok (.aload_n 2, 1) := by decide +kernel
theorem dL_law_218 : decode cL_law 218 = .ok (.invokevirtual 64, 3) := by decide +kernel
theorem dL_law_221 : decode cL_law 221 = .ok (.iload 5, 2) := by decide +kernel
theorem dL_law_223 : decode cL_law 223 = .ok (.if_icmp .eq 5, 3) := by decide +kernel
theorem dL_law_226 : decode cL_law 226 = .ok (.iconst 0, 1) := by decide +kernel
theorem dL_law_227 : decode cL_law 227 = .ok (.ireturn, 1) := by decide +kernel
theorem dL_law_228 : decode cL_law 228 = .ok (.iload 5, 2) := by decide +kernel
theorem dL_law_230 : decode cL_law 230 = .ok (.ifCond .ne 15, 3) := by decide +kernel
theorem dL_law_233 : decode cL_law 233 = .ok (.aload_n 3, 1) := by decide +kernel
theorem dL_law_234 : decode cL_law 234 = .ok (.iconst 0, 1) := by decide +kernel
theorem dL_law_235 : decode cL_law 235 = .ok (.laload, 1) := by decide +kernel
theorem dL_law_236 : decode cL_law 236 = .ok (.iload 6, 2) := by decide +kernel
theorem dL_law_238 : decode cL_law 238 = .ok (.i2l, 1) := by decide +kernel
theorem dL_law_239 : decode cL_law 239 = .ok (.lcmp, 1) := by decide +kernel
theorem dL_law_240 : decode cL_law 240 = .ok (.ifCond .eq 5, 3) := by decide +kernel
theorem dL_law_243 : decode cL_law 243 = .ok (.iconst 0, 1) := by decide +kernel
theorem dL_law_244 : decode cL_law 244 = .ok (.ireturn, 1) := by decide +kernel
theorem dL_law_245 : decode cL_law 245 = .ok (.goto 575, 3) := by decide +kernel
theorem dL_law_248 : decode cL_law 248 = .ok (.aload_n 1, 1) := by decide +kernel
theorem dL_law_249 : decode cL_law 249 = .ok (.aload_n 0, 1) := by decide +kernel
theorem dL_law_250 : decode cL_law 250 = .ok (.iload 4, 2) := by decide +kernel
theorem dL_law_252 : decode cL_law 252 = .ok (.iconst 1, 1) := by decide +kernel
theorem dL_law_253 : decode cL_law 253 = .ok (.iadd, 1) := by decide +kernel
theorem dL_law_254 : decode cL_law 254 = .ok (.iaload, 1) := by decide +kernel
theorem dL_law_255 : decode cL_law 255 = .ok (.aload_n 3, 1) := by decide +kernel
theorem dL_law_256 : decode cL_law 256 = .ok (.invokestatic 72, 3) := by decide +kernel
theorem dL_law_259 : decode cL_law 259 = .ok (.istore 5, 2) := by decide +kernel
theorem dL_law_261 : decode cL_law 261 = .ok (.aload_n 2, 1) := by decide +kernel
theorem dL_law_262 : decode cL_law 262 = .ok (.aload_n 0, 1) := by decide +kernel
theorem dL_law_263 : decode cL_law 263 = .ok (.iload 4, 2) := by decide +kernel
theorem dL_law_265 : decode cL_law 265 = .ok (.iconst 1, 1) := by decide +kernel
theorem dL_law_266 : decode cL_law 266 = .ok (.iadd, 1) := by decide +kernel
theorem dL_law_267 : decode cL_law 267 = .ok (.iaload, 1) := by decide +kernel
theorem dL_law_268 : decode cL_law 268 = .ok (.invokevirtual 74, 3) := by decide +kernel
theorem dL_law_271 : decode cL_law 271 = .ok (.istore 6, 2) := by decide +kernel
theorem dL_law_273 : decode cL_law 273 = .ok (.aload_n 2, 1) := by decide +kernel
theorem dL_law_274 : decode cL_law 274 = .ok (.invokevirtual 64, 3) := by decide +kernel
theorem dL_law_277 : decode cL_law 277 = .ok (.iload 5, 2) := by decide +kernel
theorem dL_law_279 : decode cL_law 279 = .ok (.if_icmp .eq 5, 3) := by decide +kernel
theorem dL_law_282 : decode cL_law 282 = .ok (.iconst 0, 1) := by decide +kernel
theorem dL_law_283 : decode cL_law 283 = .ok (.ireturn, 1) := by decide +kernel
theorem dL_law_284 : decode cL_law 284 = .ok (.iload 5, 2) := by decide +kernel
theorem dL_law_286 : decode cL_law 286 = .ok (.ifCond .ne 15, 3) := by decide +kernel
theorem dL_law_289 : decode cL_law 289 = .ok (.aload_n 3, 1) := by decide +kernel
theorem dL_law_290 : decode cL_law 290 = .ok (.iconst 0, 1) := by decide +kernel
theorem dL_law_291 : decode cL_law 291 = .ok (.laload, 1) := by decide +kernel
theorem dL_law_292 : decode cL_law 292 = .ok (.iload 6, 2) := by decide +kernel
theorem dL_law_294 : decode cL_law 294 = .ok (.i2l, 1) := by decide +kernel
theorem dL_law_295 : decode cL_law 295 = .ok (.lcmp, 1) := by decide +kernel
theorem dL_law_296 : decode cL_law 296 = .ok (.ifCond .eq 5, 3) := by decide +kernel
theorem dL_law_299 : decode cL_law 299 = .ok (.iconst 0, 1) := by decide +kernel
theorem dL_law_300 : decode cL_law 300 = .ok (.ireturn, 1) := by decide +kernel
theorem dL_law_301 : decode cL_law 301 = .ok (.goto 519, 3) := by decide +kernel
theorem dL_law_304 : decode cL_law 304 = .ok (.aload_n 1, 1) := by decide +kernel
theorem dL_law_305 : decode cL_law 305 = .ok (.aload_n 0, 1) := by decide +kernel
theorem dL_law_306 : decode cL_law 306 = .ok (.iload 4, 2) := by decide +kernel
theorem dL_law_308 : decode cL_law 308 = .ok (.iconst 1, 1) := by decide +kernel
theorem dL_law_309 : decode cL_law 309 = .ok (.iadd, 1) := by decide +kernel
theorem dL_law_310 : decode cL_law 310 = .ok (.iaload, 1) := by decide +kernel
theorem dL_law_311 : decode cL_law 311 = .ok (.aload_n 3, 1) := by decide +kernel
theorem dL_law_312 : decode cL_law 312 = .ok (.invokestatic 75, 3) := by decide +kernel
theorem dL_law_315 : decode cL_law 315 = .ok (.istore 5, 2) := by decide +kernel
theorem dL_law_317 : decode cL_law 317 = .ok (.aload_n 2, 1) := by decide +kernel
theorem dL_law_318 : decode cL_law 318 = .ok (.aload_n 0, 1) := by decide +kernel
theorem dL_law_319 : decode cL_law 319 = .ok (.iload 4, 2) := by decide +kernel
theorem dL_law_321 : decode cL_law 321 = .ok (.iconst 1, 1) := by decide +kernel
theorem dL_law_322 : decode cL_law 322 = .ok (.iadd, 1) := by decide +kernel
theorem dL_law_323 : decode cL_law 323 = .ok (.iaload, 1) := by decide +kernel
theorem dL_law_324 : decode cL_law 324 = .ok (.invokevirtual 77, 3) := by decide +kernel
theorem dL_law_327 : decode cL_law 327 = .ok (.istore 6, 2) := by decide +kernel
theorem dL_law_329 : decode cL_law 329 = .ok (.aload_n 2, 1) := by decide +kernel
theorem dL_law_330 : decode cL_law 330 = .ok (.invokevirtual 64, 3) := by decide +kernel
theorem dL_law_333 : decode cL_law 333 = .ok (.iload 5, 2) := by decide +kernel
theorem dL_law_335 : decode cL_law 335 = .ok (.if_icmp .eq 5, 3) := by decide +kernel
theorem dL_law_338 : decode cL_law 338 = .ok (.iconst 0, 1) := by decide +kernel
theorem dL_law_339 : decode cL_law 339 = .ok (.ireturn, 1) := by decide +kernel
theorem dL_law_340 : decode cL_law 340 = .ok (.iload 5, 2) := by decide +kernel
theorem dL_law_342 : decode cL_law 342 = .ok (.ifCond .ne 15, 3) := by decide +kernel
theorem dL_law_345 : decode cL_law 345 = .ok (.aload_n 3, 1) := by decide +kernel
theorem dL_law_346 : decode cL_law 346 = .ok (.iconst 0, 1) := by decide +kernel
theorem dL_law_347 : decode cL_law 347 = .ok (.laload, 1) := by decide +kernel
theorem dL_law_348 : decode cL_law 348 = .ok (.iload 6, 2) := by decide +kernel
theorem dL_law_350 : decode cL_law 350 = .ok (.i2l, 1) := by decide +kernel
theorem dL_law_351 : decode cL_law 351 = .ok (.lcmp, 1) := by decide +kernel
theorem dL_law_352 : decode cL_law 352 = .ok (.ifCond .eq 5, 3) := by decide +kernel
theorem dL_law_355 : decode cL_law 355 = .ok (.iconst 0, 1) := by decide +kernel
theorem dL_law_356 : decode cL_law 356 = .ok (.ireturn, 1) := by decide +kernel
theorem dL_law_357 : decode cL_law 357 = .ok (.goto 463, 3) := by decide +kernel
theorem dL_law_360 : decode cL_law 360 = .ok (.aload_n 1, 1) := by decide +kernel
theorem dL_law_361 : decode cL_law 361 = .ok (.aload_n 0, 1) := by decide +kernel
theorem dL_law_362 : decode cL_law 362 = .ok (.iload 4, 2) := by decide +kernel
theorem dL_law_364 : decode cL_law 364 = .ok (.iconst 1, 1) := by decide +kernel
theorem dL_law_365 : decode cL_law 365 = .ok (.iadd, 1) := by decide +kernel
theorem dL_law_366 : decode cL_law 366 = .ok (.iaload, 1) := by decide +kernel
theorem dL_law_367 : decode cL_law 367 = .ok (.aload_n 3, 1) := by decide +kernel
theorem dL_law_368 : decode cL_law 368 = .ok (.invokestatic 78, 3) := by decide +kernel
theorem dL_law_371 : decode cL_law 371 = .ok (.istore 5, 2) := by decide +kernel
theorem dL_law_373 : decode cL_law 373 = .ok (.aload_n 2, 1) := by decide +kernel
theorem dL_law_374 : decode cL_law 374 = .ok (.aload_n 0, 1) := by decide +kernel
theorem dL_law_375 : decode cL_law 375 = .ok (.iload 4, 2) := by decide +kernel
theorem dL_law_377 : decode cL_law 377 = .ok (.iconst 1, 1) := by decide +kernel
theorem dL_law_378 : decode cL_law 378 = .ok (.iadd, 1) := by decide +kernel
theorem dL_law_379 : decode cL_law 379 = .ok (.iaload, 1) := by decide +kernel
theorem dL_law_380 : decode cL_law 380 = .ok (.invokevirtual 80, 3) := by decide +kernel
theorem dL_law_383 : decode cL_law 383 = .ok (.istore 6, 2) := by decide +kernel
theorem dL_law_385 : decode cL_law 385 = .ok (.aload_n 2, 1) := by decide +kernel
theorem dL_law_386 : decode cL_law 386 = .ok (.invokevirtual 64, 3) := by decide +kernel
theorem dL_law_389 : decode cL_law 389 = .ok (.iload 5, 2) := by decide +kernel
theorem dL_law_391 : decode cL_law 391 = .ok (.if_icmp .eq 5, 3) := by decide +kernel
theorem dL_law_394 : decode cL_law 394 = .ok (.iconst 0, 1) := by decide +kernel
theorem dL_law_395 : decode cL_law 395 = .ok (.ireturn, 1) := by decide +kernel
theorem dL_law_396 : decode cL_law 396 = .ok (.iload 5, 2) := by decide +kernel
theorem dL_law_398 : decode cL_law 398 = .ok (.ifCond .ne 22, 3) := by decide +kernel
theorem dL_law_401 : decode cL_law 401 = .ok (.aload_n 3, 1) := by decide +kernel
theorem dL_law_402 : decode cL_law 402 = .ok (.iconst 0, 1) := by decide +kernel
theorem dL_law_403 : decode cL_law 403 = .ok (.laload, 1) := by decide +kernel
theorem dL_law_404 : decode cL_law 404 = .ok (.iload 6, 2) := by decide +kernel
theorem dL_law_406 : decode cL_law 406 = .ok (.ifCond .eq 7, 3) := by decide +kernel
theorem dL_law_409 : decode cL_law 409 = .ok (.lconst 1, 1) := by decide +kernel
theorem dL_law_410 : decode cL_law 410 = .ok (.goto 4, 3) := by decide +kernel
theorem dL_law_413 : decode cL_law 413 = .ok (.lconst 0, 1) := by decide +kernel
theorem dL_law_414 : decode cL_law 414 = .ok (.lcmp, 1) := by decide +kernel
theorem dL_law_415 : decode cL_law 415 = .ok (.ifCond .eq 5, 3) := by decide +kernel
theorem dL_law_418 : decode cL_law 418 = .ok (.iconst 0, 1) := by decide +kernel
theorem dL_law_419 : decode cL_law 419 = .ok (.ireturn, 1) := by decide +kernel
theorem dL_law_420 : decode cL_law 420 = .ok (.goto 400, 3) := by decide +kernel
theorem dL_law_423 : decode cL_law 423 = .ok (.aload_n 1, 1) := by decide +kernel
theorem dL_law_424 : decode cL_law 424 = .ok (.invokevirtual 81, 3) := by decide +kernel
theorem dL_law_427 : decode cL_law 427 = .ok (.aload_n 2, 1) := by decide +kernel
theorem dL_law_428 : decode cL_law 428 = .ok (.invokevirtual 84, 3) := by decide +kernel
theorem dL_law_431 : decode cL_law 431 = .ok (.if_icmp .eq 389, 3) := by decide +kernel
theorem dL_law_434 : decode cL_law 434 = .ok (.iconst 0, 1) := by decide +kernel
theorem dL_law_435 : decode cL_law 435 = .ok (.ireturn, 1) := by decide +kernel
theorem dL_law_436 : decode cL_law 436 = .ok (.aload_n 1, 1) := by decide +kernel
theorem dL_law_437 : decode cL_law 437 = .ok (.aload_n 0, 1) := by decide +kernel
theorem dL_law_438 : decode cL_law 438 = .ok (.iload 4, 2) := by decide +kernel
theorem dL_law_440 : decode cL_law 440 = .ok (.iconst 1, 1) := by decide +kernel
theorem dL_law_441 : decode cL_law 441 = .ok (.iadd, 1) := by decide +kernel
theorem dL_law_442 : decode cL_law 442 = .ok (.iaload, 1) := by decide +kernel
theorem dL_law_443 : decode cL_law 443 = .ok (.aload_n 3, 1) := by decide +kernel
theorem dL_law_444 : decode cL_law 444 = .ok (.invokestatic 85, 3) := by decide +kernel
theorem dL_law_447 : decode cL_law 447 = .ok (.istore 5, 2) := by decide +kernel
theorem dL_law_449 : decode cL_law 449 = .ok (.aload_n 2, 1) := by decide +kernel
theorem dL_law_450 : decode cL_law 450 = .ok (.aload_n 0, 1) := by decide +kernel
theorem dL_law_451 : decode cL_law 451 = .ok (.iload 4, 2) := by decide +kernel
theorem dL_law_453 : decode cL_law 453 = .ok (.iconst 1, 1) := by decide +kernel
theorem dL_law_454 : decode cL_law 454 = .ok (.iadd, 1) := by decide +kernel
theorem dL_law_455 : decode cL_law 455 = .ok (.iaload, 1) := by decide +kernel
theorem dL_law_456 : decode cL_law 456 = .ok (.invokevirtual 87, 3) := by decide +kernel
theorem dL_law_459 : decode cL_law 459 = .ok (.istore 6, 2) := by decide +kernel
theorem dL_law_461 : decode cL_law 461 = .ok (.aload_n 2, 1) := by decide +kernel
theorem dL_law_462 : decode cL_law 462 = .ok (.invokevirtual 64, 3) := by decide +kernel
theorem dL_law_465 : decode cL_law 465 = .ok (.iload 5, 2) := by decide +kernel
theorem dL_law_467 : decode cL_law 467 = .ok (.if_icmp .eq 5, 3) := by decide +kernel
theorem dL_law_470 : decode cL_law 470 = .ok (.iconst 0, 1) := by decide +kernel
theorem dL_law_471 : decode cL_law 471 = .ok (.ireturn, 1) := by decide +kernel
theorem dL_law_472 : decode cL_law 472 = .ok (.iload 5, 2) := by decide +kernel
theorem dL_law_474 : decode cL_law 474 = .ok (.ifCond .ne 15, 3) := by decide +kernel
theorem dL_law_477 : decode cL_law 477 = .ok (.aload_n 3, 1) := by decide +kernel
theorem dL_law_478 : decode cL_law 478 = .ok (.iconst 0, 1) := by decide +kernel
theorem dL_law_479 : decode cL_law 479 = .ok (.laload, 1) := by decide +kernel
theorem dL_law_480 : decode cL_law 480 = .ok (.iload 6, 2) := by decide +kernel
theorem dL_law_482 : decode cL_law 482 = .ok (.i2l, 1) := by decide +kernel
theorem dL_law_483 : decode cL_law 483 = .ok (.lcmp, 1) := by decide +kernel
theorem dL_law_484 : decode cL_law 484 = .ok (.ifCond .eq 5, 3) := by decide +kernel
theorem dL_law_487 : decode cL_law 487 = .ok (.iconst 0, 1) := by decide +kernel
theorem dL_law_488 : decode cL_law 488 = .ok (.ireturn, 1) := by decide +kernel
theorem dL_law_489 : decode cL_law 489 = .ok (.goto 331, 3) := by decide +kernel
theorem dL_law_492 : decode cL_law 492 = .ok (.aload_n 1, 1) := by decide +kernel
theorem dL_law_493 : decode cL_law 493 = .ok (.aload_n 0, 1) := by decide +kernel
theorem dL_law_494 : decode cL_law 494 = .ok (.iload 4, 2) := by decide +kernel
theorem dL_law_496 : decode cL_law 496 = .ok (.iconst 1, 1) := by decide +kernel
theorem dL_law_497 : decode cL_law 497 = .ok (.iadd, 1) := by decide +kernel
theorem dL_law_498 : decode cL_law 498 = .ok (.iaload, 1) := by decide +kernel
theorem dL_law_499 : decode cL_law 499 = .ok (.invokevirtual 88, 3) := by decide +kernel
theorem dL_law_502 : decode cL_law 502 = .ok (.aload_n 2, 1) := by decide +kernel
theorem dL_law_503 : decode cL_law 503 = .ok (.aload_n 0, 1) := by decide +kernel
theorem dL_law_504 : decode cL_law 504 = .ok (.iload 4, 2) := by decide +kernel
theorem dL_law_506 : decode cL_law 506 = .ok (.iconst 1, 1) := by decide +kernel
theorem dL_law_507 : decode cL_law 507 = .ok (.iadd, 1) := by decide +kernel
theorem dL_law_508 : decode cL_law 508 = .ok (.iaload, 1) := by decide +kernel
theorem dL_law_509 : decode cL_law 509 = .ok (.invokevirtual 91, 3) := by decide +kernel
theorem dL_law_512 : decode cL_law 512 = .ok (.if_icmp .eq 308, 3) := by decide +kernel
theorem dL_law_515 : decode cL_law 515 = .ok (.iconst 0, 1) := by decide +kernel
theorem dL_law_516 : decode cL_law 516 = .ok (.ireturn, 1) := by decide +kernel
theorem dL_law_517 : decode cL_law 517 = .ok (.aload_n 1, 1) := by decide +kernel
theorem dL_law_518 : decode cL_law 518 = .ok (.invokevirtual 92, 3) := by decide +kernel
theorem dL_law_521 : decode cL_law 521 = .ok (.aload_n 2, 1) := by decide +kernel
theorem dL_law_522 : decode cL_law 522 = .ok (.invokevirtual 95, 3) := by decide +kernel
theorem dL_law_525 : decode cL_law 525 = .ok (.if_icmp .eq 295, 3) := by decide +kernel
theorem dL_law_528 : decode cL_law 528 = .ok (.iconst 0, 1) := by decide +kernel
theorem dL_law_529 : decode cL_law 529 = .ok (.ireturn, 1) := by decide +kernel
theorem dL_law_530 : decode cL_law 530 = .ok (.aload_n 1, 1) := by decide +kernel
theorem dL_law_531 : decode cL_law 531 = .ok (.invokevirtual 96, 3) := by decide +kernel
theorem dL_law_534 : decode cL_law 534 = .ok (.aload_n 2, 1) := by decide +kernel
theorem dL_law_535 : decode cL_law 535 = .ok (.invokevirtual 99, 3) := by decide +kernel
theorem dL_law_538 : decode cL_law 538 = .ok (.if_icmp .eq 282, 3) := by decide +kernel
theorem dL_law_541 : decode cL_law 541 = .ok (.iconst 0, 1) := by decide +kernel
theorem dL_law_542 : decode cL_law 542 = .ok (.ireturn, 1) := by decide +kernel
theorem dL_law_543 : decode cL_law 543 = .ok (.aload_n 1, 1) := by decide +kernel
theorem dL_law_544 : decode cL_law 544 = .ok (.aload_n 0, 1) := by decide +kernel
theorem dL_law_545 : decode cL_law 545 = .ok (.iload 4, 2) := by decide +kernel
theorem dL_law_547 : decode cL_law 547 = .ok (.iconst 1, 1) := by decide +kernel
theorem dL_law_548 : decode cL_law 548 = .ok (.iadd, 1) := by decide +kernel
theorem dL_law_549 : decode cL_law 549 = .ok (.iaload, 1) := by decide +kernel
theorem dL_law_550 : decode cL_law 550 = .ok (.aload_n 0, 1) := by decide +kernel
theorem dL_law_551 : decode cL_law 551 = .ok (.iload 4, 2) := by decide +kernel
theorem dL_law_553 : decode cL_law 553 = .ok (.iconst 2, 1) := by decide +kernel
theorem dL_law_554 : decode cL_law 554 = .ok (.iadd, 1) := by decide +kernel
theorem dL_law_555 : decode cL_law 555 = .ok (.iaload, 1) := by decide +kernel
theorem dL_law_556 : decode cL_law 556 = .ok (.aload_n 3, 1) := by decide +kernel
theorem dL_law_557 : decode cL_law 557 = .ok (.invokestatic 100, 3) := by decide +kernel
theorem dL_law_560 : decode cL_law 560 = .ok (.istore 5, 2) := by decide +kernel
theorem dL_law_562 : decode cL_law 562 = .ok (.aload_n 2, 1) := by decide +kernel
theorem dL_law_563 : decode cL_law 563 = .ok (.aload_n 0, 1) := by decide +kernel
theorem dL_law_564 : decode cL_law 564 = .ok (.iload 4, 2) := by decide +kernel
theorem dL_law_566 : decode cL_law 566 = .ok (.iconst 1, 1) := by decide +kernel
theorem dL_law_567 : decode cL_law 567 = .ok (.iadd, 1) := by decide +kernel
theorem dL_law_568 : decode cL_law 568 = .ok (.iaload, 1) := by decide +kernel
theorem dL_law_569 : decode cL_law 569 = .ok (.aload_n 0, 1) := by decide +kernel
theorem dL_law_570 : decode cL_law 570 = .ok (.iload 4, 2) := by decide +kernel
theorem dL_law_572 : decode cL_law 572 = .ok (.iconst 2, 1) := by decide +kernel
theorem dL_law_573 : decode cL_law 573 = .ok (.iadd, 1) := by decide +kernel
theorem dL_law_574 : decode cL_law 574 = .ok (.iaload, 1) := by decide +kernel
theorem dL_law_575 : decode cL_law 575 = .ok (.invokevirtual 102, 3) := by decide +kernel
theorem dL_law_578 : decode cL_law 578 = .ok (.istore 6, 2) := by decide +kernel
theorem dL_law_580 : decode cL_law 580 = .ok (.aload_n 2, 1) := by decide +kernel
theorem dL_law_581 : decode cL_law 581 = .ok (.invokevirtual 64, 3) := by decide +kernel
theorem dL_law_584 : decode cL_law 584 = .ok (.iload 5, 2) := by decide +kernel
theorem dL_law_586 : decode cL_law 586 = .ok (.if_icmp .eq 5, 3) := by decide +kernel
theorem dL_law_589 : decode cL_law 589 = .ok (.iconst 0, 1) := by decide +kernel
theorem dL_law_590 : decode cL_law 590 = .ok (.ireturn, 1) := by decide +kernel
theorem dL_law_591 : decode cL_law 591 = .ok (.iload 5, 2) := by decide +kernel
theorem dL_law_593 : decode cL_law 593 = .ok (.ifCond .ne 15, 3) := by decide +kernel
theorem dL_law_596 : decode cL_law 596 = .ok (.aload_n 3, 1) := by decide +kernel
theorem dL_law_597 : decode cL_law 597 = .ok (.iconst 0, 1) := by decide +kernel
theorem dL_law_598 : decode cL_law 598 = .ok (.laload, 1) := by decide +kernel
theorem dL_law_599 : decode cL_law 599 = .ok (.iload 6, 2) := by decide +kernel
theorem dL_law_601 : decode cL_law 601 = .ok (.i2l, 1) := by decide +kernel
theorem dL_law_602 : decode cL_law 602 = .ok (.lcmp, 1) := by decide +kernel
theorem dL_law_603 : decode cL_law 603 = .ok (.ifCond .eq 5, 3) := by decide +kernel
theorem dL_law_606 : decode cL_law 606 = .ok (.iconst 0, 1) := by decide +kernel
theorem dL_law_607 : decode cL_law 607 = .ok (.ireturn, 1) := by decide +kernel
theorem dL_law_608 : decode cL_law 608 = .ok (.goto 212, 3) := by decide +kernel
theorem dL_law_611 : decode cL_law 611 = .ok (.aload_n 1, 1) := by decide +kernel
theorem dL_law_612 : decode cL_law 612 = .ok (.aload_n 0, 1) := by decide +kernel
theorem dL_law_613 : decode cL_law 613 = .ok (.iload 4, 2) := by decide +kernel
theorem dL_law_615 : decode cL_law 615 = .ok (.iconst 1, 1) := by decide +kernel
theorem dL_law_616 : decode cL_law 616 = .ok (.iadd, 1) := by decide +kernel
theorem dL_law_617 : decode cL_law 617 = .ok (.iaload, 1) := by decide +kernel
theorem dL_law_618 : decode cL_law 618 = .ok (.aload_n 3, 1) := by decide +kernel
theorem dL_law_619 : decode cL_law 619 = .ok (.invokestatic 103, 3) := by decide +kernel
theorem dL_law_622 : decode cL_law 622 = .ok (.istore 5, 2) := by decide +kernel
theorem dL_law_624 : decode cL_law 624 = .ok (.aload_n 2, 1) := by decide +kernel
theorem dL_law_625 : decode cL_law 625 = .ok (.aload_n 0, 1) := by decide +kernel
theorem dL_law_626 : decode cL_law 626 = .ok (.iload 4, 2) := by decide +kernel
theorem dL_law_628 : decode cL_law 628 = .ok (.iconst 1, 1) := by decide +kernel
theorem dL_law_629 : decode cL_law 629 = .ok (.iadd, 1) := by decide +kernel
theorem dL_law_630 : decode cL_law 630 = .ok (.iaload, 1) := by decide +kernel
theorem dL_law_631 : decode cL_law 631 = .ok (.invokevirtual 105, 3) := by decide +kernel
theorem dL_law_634 : decode cL_law 634 = .ok (.istore 6, 2) := by decide +kernel
theorem dL_law_636 : decode cL_law 636 = .ok (.aload_n 2, 1) := by decide +kernel
theorem dL_law_637 : decode cL_law 637 = .ok (.invokevirtual 64, 3) := by decide +kernel
theorem dL_law_640 : decode cL_law 640 = .ok (.iload 5, 2) := by decide +kernel
theorem dL_law_642 : decode cL_law 642 = .ok (.if_icmp .eq 5, 3) := by decide +kernel
theorem dL_law_645 : decode cL_law 645 = .ok (.iconst 0, 1) := by decide +kernel
theorem dL_law_646 : decode cL_law 646 = .ok (.ireturn, 1) := by decide +kernel
theorem dL_law_647 : decode cL_law 647 = .ok (.iload 5, 2) := by decide +kernel
theorem dL_law_649 : decode cL_law 649 = .ok (.ifCond .ne 15, 3) := by decide +kernel
theorem dL_law_652 : decode cL_law 652 = .ok (.aload_n 3, 1) := by decide +kernel
theorem dL_law_653 : decode cL_law 653 = .ok (.iconst 0, 1) := by decide +kernel
theorem dL_law_654 : decode cL_law 654 = .ok (.laload, 1) := by decide +kernel
theorem dL_law_655 : decode cL_law 655 = .ok (.iload 6, 2) := by decide +kernel
theorem dL_law_657 : decode cL_law 657 = .ok (.i2l, 1) := by decide +kernel
theorem dL_law_658 : decode cL_law 658 = .ok (.lcmp, 1) := by decide +kernel
theorem dL_law_659 : decode cL_law 659 = .ok (.ifCond .eq 5, 3) := by decide +kernel
theorem dL_law_662 : decode cL_law 662 = .ok (.iconst 0, 1) := by decide +kernel
theorem dL_law_663 : decode cL_law 663 = .ok (.ireturn, 1) := by decide +kernel
theorem dL_law_664 : decode cL_law 664 = .ok (.goto 156, 3) := by decide +kernel
theorem dL_law_667 : decode cL_law 667 = .ok (.aload_n 1, 1) := by decide +kernel
theorem dL_law_668 : decode cL_law 668 = .ok (.aload_n 0, 1) := by decide +kernel
theorem dL_law_669 : decode cL_law 669 = .ok (.iload 4, 2) := by decide +kernel
theorem dL_law_671 : decode cL_law 671 = .ok (.iconst 1, 1) := by decide +kernel
theorem dL_law_672 : decode cL_law 672 = .ok (.iadd, 1) := by decide +kernel
theorem dL_law_673 : decode cL_law 673 = .ok (.iaload, 1) := by decide +kernel
theorem dL_law_674 : decode cL_law 674 = .ok (.aload_n 3, 1) := by decide +kernel
theorem dL_law_675 : decode cL_law 675 = .ok (.invokestatic 106, 3) := by decide +kernel
theorem dL_law_678 : decode cL_law 678 = .ok (.istore 5, 2) := by decide +kernel
theorem dL_law_680 : decode cL_law 680 = .ok (.aload_n 2, 1) := by decide +kernel
theorem dL_law_681 : decode cL_law 681 = .ok (.aload_n 0, 1) := by decide +kernel
theorem dL_law_682 : decode cL_law 682 = .ok (.iload 4, 2) := by decide +kernel
theorem dL_law_684 : decode cL_law 684 = .ok (.iconst 1, 1) := by decide +kernel
theorem dL_law_685 : decode cL_law 685 = .ok (.iadd, 1) := by decide +kernel
theorem dL_law_686 : decode cL_law 686 = .ok (.iaload, 1) := by decide +kernel
theorem dL_law_687 : decode cL_law 687 = .ok (.invokevirtual 108, 3) := by decide +kernel
theorem dL_law_690 : decode cL_law 690 = .ok (.istore 6, 2) := by decide +kernel
theorem dL_law_692 : decode cL_law 692 = .ok (.aload_n 2, 1) := by decide +kernel
theorem dL_law_693 : decode cL_law 693 = .ok (.invokevirtual 64, 3) := by decide +kernel
theorem dL_law_696 : decode cL_law 696 = .ok (.iload 5, 2) := by decide +kernel
theorem dL_law_698 : decode cL_law 698 = .ok (.if_icmp .eq 5, 3) := by decide +kernel
theorem dL_law_701 : decode cL_law 701 = .ok (.iconst 0, 1) := by decide +kernel
theorem dL_law_702 : decode cL_law 702 = .ok (.ireturn, 1) := by decide +kernel
theorem dL_law_703 : decode cL_law 703 = .ok (.iload 5, 2) := by decide +kernel
theorem dL_law_705 : decode cL_law 705 = .ok (.ifCond .ne 15, 3) := by decide +kernel
theorem dL_law_708 : decode cL_law 708 = .ok (.aload_n 3, 1) := by decide +kernel
theorem dL_law_709 : decode cL_law 709 = .ok (.iconst 0, 1) := by decide +kernel
theorem dL_law_710 : decode cL_law 710 = .ok (.laload, 1) := by decide +kernel
theorem dL_law_711 : decode cL_law 711 = .ok (.iload 6, 2) := by decide +kernel
theorem dL_law_713 : decode cL_law 713 = .ok (.i2l, 1) := by decide +kernel
theorem dL_law_714 : decode cL_law 714 = .ok (.lcmp, 1) := by decide +kernel
theorem dL_law_715 : decode cL_law 715 = .ok (.ifCond .eq 5, 3) := by decide +kernel
theorem dL_law_718 : decode cL_law 718 = .ok (.iconst 0, 1) := by decide +kernel
theorem dL_law_719 : decode cL_law 719 = .ok (.ireturn, 1) := by decide +kernel
theorem dL_law_720 : decode cL_law 720 = .ok (.goto 100, 3) := by decide +kernel
theorem dL_law_723 : decode cL_law 723 = .ok (.aload_n 1, 1) := by decide +kernel
theorem dL_law_724 : decode cL_law 724 = .ok (.aload_n 0, 1) := by decide +kernel
theorem dL_law_725 : decode cL_law 725 = .ok (.iload 4, 2) := by decide +kernel
theorem dL_law_727 : decode cL_law 727 = .ok (.iconst 1, 1) := by decide +kernel
theorem dL_law_728 : decode cL_law 728 = .ok (.iadd, 1) := by decide +kernel
theorem dL_law_729 : decode cL_law 729 = .ok (.iaload, 1) := by decide +kernel
theorem dL_law_730 : decode cL_law 730 = .ok (.aload_n 3, 1) := by decide +kernel
theorem dL_law_731 : decode cL_law 731 = .ok (.invokestatic 109, 3) := by decide +kernel
theorem dL_law_734 : decode cL_law 734 = .ok (.istore 5, 2) := by decide +kernel
theorem dL_law_736 : decode cL_law 736 = .ok (.aload_n 2, 1) := by decide +kernel
theorem dL_law_737 : decode cL_law 737 = .ok (.aload_n 0, 1) := by decide +kernel
theorem dL_law_738 : decode cL_law 738 = .ok (.iload 4, 2) := by decide +kernel
theorem dL_law_740 : decode cL_law 740 = .ok (.iconst 1, 1) := by decide +kernel
theorem dL_law_741 : decode cL_law 741 = .ok (.iadd, 1) := by decide +kernel
theorem dL_law_742 : decode cL_law 742 = .ok (.iaload, 1) := by decide +kernel
theorem dL_law_743 : decode cL_law 743 = .ok (.invokevirtual 111, 3) := by decide +kernel
theorem dL_law_746 : decode cL_law 746 = .ok (.istore 6, 2) := by decide +kernel
theorem dL_law_748 : decode cL_law 748 = .ok (.aload_n 2, 1) := by decide +kernel
theorem dL_law_749 : decode cL_law 749 = .ok (.invokevirtual 64, 3) := by decide +kernel
theorem dL_law_752 : decode cL_law 752 = .ok (.iload 5, 2) := by decide +kernel
theorem dL_law_754 : decode cL_law 754 = .ok (.if_icmp .eq 5, 3) := by decide +kernel
theorem dL_law_757 : decode cL_law 757 = .ok (.iconst 0, 1) := by decide +kernel
theorem dL_law_758 : decode cL_law 758 = .ok (.ireturn, 1) := by decide +kernel
theorem dL_law_759 : decode cL_law 759 = .ok (.iload 5, 2) := by decide +kernel
theorem dL_law_761 : decode cL_law 761 = .ok (.ifCond .ne 15, 3) := by decide +kernel
theorem dL_law_764 : decode cL_law 764 = .ok (.aload_n 3, 1) := by decide +kernel
theorem dL_law_765 : decode cL_law 765 = .ok (.iconst 0, 1) := by decide +kernel
theorem dL_law_766 : decode cL_law 766 = .ok (.laload, 1) := by decide +kernel
theorem dL_law_767 : decode cL_law 767 = .ok (.iload 6, 2) := by decide +kernel
theorem dL_law_769 : decode cL_law 769 = .ok (.i2l, 1) := by decide +kernel
theorem dL_law_770 : decode cL_law 770 = .ok (.lcmp, 1) := by decide +kernel
theorem dL_law_771 : decode cL_law 771 = .ok (.ifCond .eq 5, 3) := by decide +kernel
theorem dL_law_774 : decode cL_law 774 = .ok (.iconst 0, 1) := by decide +kernel
theorem dL_law_775 : decode cL_law 775 = .ok (.ireturn, 1) := by decide +kernel
theorem dL_law_776 : decode cL_law 776 = .ok (.goto 44, 3) := by decide +kernel
theorem dL_law_779 : decode cL_law 779 = .ok (.aload_n 1, 1) := by decide +kernel
theorem dL_law_780 : decode cL_law 780 = .ok (.invokevirtual 112, 3) := by decide +kernel
theorem dL_law_783 : decode cL_law 783 = .ok (.dstore 5, 2) := by decide +kernel
theorem dL_law_785 : decode cL_law 785 = .ok (.aload_n 2, 1) := by decide +kernel
theorem dL_law_786 : decode cL_law 786 = .ok (.invokevirtual 116, 3) := by decide +kernel
theorem dL_law_789 : decode cL_law 789 = .ok (.dstore 7, 2) := by decide +kernel
theorem dL_law_791 : decode cL_law 791 = .ok (.dload 5, 2) := by decide +kernel
theorem dL_law_793 : decode cL_law 793 = .ok (.dload 7, 2) := by decide +kernel
theorem dL_law_795 : decode cL_law 795 = .ok (.dcmp .l, 1) := by decide +kernel
theorem dL_law_796 : decode cL_law 796 = .ok (.ifCond .eq 21, 3) := by decide +kernel
theorem dL_law_799 : decode cL_law 799 = .ok (.dload 5, 2) := by decide +kernel
theorem dL_law_801 : decode cL_law 801 = .ok (.dload 5, 2) := by decide +kernel
theorem dL_law_803 : decode cL_law 803 = .ok (.dcmp .l, 1) := by decide +kernel
theorem dL_law_804 : decode cL_law 804 = .ok (.ifCond .eq 11, 3) := by decide +kernel
theorem dL_law_807 : decode cL_law 807 = .ok (.dload 7, 2) := by decide +kernel
theorem dL_law_809 : decode cL_law 809 = .ok (.dload 7, 2) := by decide +kernel
theorem dL_law_811 : decode cL_law 811 = .ok (.dcmp .l, 1) := by decide +kernel
theorem dL_law_812 : decode cL_law 812 = .ok (.ifCond .ne 5, 3) := by decide +kernel
theorem dL_law_815 : decode cL_law 815 = .ok (.iconst 0, 1) := by decide +kernel
theorem dL_law_816 : decode cL_law 816 = .ok (.ireturn, 1) := by decide +kernel
theorem dL_law_817 : decode cL_law 817 = .ok (.goto 3, 3) := by decide +kernel
theorem dL_law_820 : decode cL_law 820 = .ok (.iinc 4 3, 3) := by decide +kernel
theorem dL_law_823 : decode cL_law 823 = .ok (.goto (-790), 3) := by decide +kernel
theorem dL_law_826 : decode cL_law 826 = .ok (.iconst 1, 1) := by decide +kernel
theorem dL_law_827 : decode cL_law 827 = .ok (.ireturn, 1) := by decide +kernel
abbrev vwCl : List vw_C := [(RX0, TX0, 3), (RX1, TX1, 5), (RX2, TX2, 3), (RX3, TX3, 6), (RX4, TX4, 11)]
end
section
/-! THE CLAIM OUT OF ONE WALK OF THE LAW'S BODY. Your part is whole_start (and what it stands on); all else here is the same for every law, but numbers. -/
def R_law : String := "SplicedChainLaw"
def lw_P (b : Addr) (xs : List Int32) (args : Array Value) (s : State) : Prop := args = #[.ref b] ∧ s.IntsAt b xs ∧ xs.length ≤ 1537 ∧ (Jvm.Cond.and given_1 narrow_1).before args s = true
/-- what a walk over the start with the record d0 says of its end, said of the start itself -/
theorem lw_closed {s t : State} {o : Outcome} {d0 : Drawn} {L : List Loc} {k n : Nat} (hd0 : s.drawn.sameBut d0 lw_cs) (hv : ∃ v, o = .returned v) (hW : (s.setDrawn d0).WarmedH t.vm) (hs : (s.setDrawn d0).sameButNew ({ t with vm := s.vm } : State) L k n) : State.butDraws s t lw_cs (fun t1 => Framed s o t1 L k n) := by
  have h2 : t.drawn = d0 := congrArg State.drawn hs.1
  refine ⟨⟨hv, hW, State.sameButNew.setDrawn hs s.drawn⟩, ?_, by decide⟩
  rw [h2]
  exact hd0
def lw_Q (_ : Array Value) (s : State) (o : Outcome) (t : State) : Prop := o = .returned (some (.int 1)) ∧ State.butDraws s t lw_cs (fun t1 => Framed s o t1 [] 617831 7242576)
def lw_Z (below : List Frame) (a : Array Value) (s : State) : State → Prop := fun t => ∃ o, t.status = .running ∧ Ended t below o ∧ lw_Q a s o t
/-- the law's own end, with 1 on the stack, nothing written that was there before, its room as the claim has it; d0: the record of draws at this point (at the entry s.drawn: begin with 'refine W.base ?_' and 'have hd0 := Drawn.sameBut.refl s.drawn lw_cs') -/
theorem lw_ret {p : Program} {l : Launch} {e : Env} {s : State} {m : MethodId} {below : List Frame} {meth : Method} {c : Code} {b : Nat} {d0 : Drawn} (hd0 : s.drawn.sameBut d0 lw_cs) (hx : p.tables.exec = Jvm.exec) (hb : c.code = code) (hr : meth.sig.returnType = ret) (hlocks : meth.locks = false) {pc : Nat} {H : Heap} {ls : Array Slot} (hdg : decode code pc = .ok (.ireturn, 1)) : W p l e room_1 (s.setDrawn d0) m #[Value.ref b] below meth c H [] 617831 7242576 (lw_Z below #[Value.ref b] s) (F0 m pc ls [.int 1]) := by
  intro T hT X
  obtain ⟨fs, hret, hrun, hended, hW, hframe⟩ := X.leave (v := some (.int 1)) (hlocks := hlocks) (fun h => by rw [hr] at h; cases h)
  have hmeth' : T.vm.method? m = some meth := X.method'
  refine ⟨T.setFrames fs, ?_, .returned (some (.int 1)), hrun, hended, rfl, lw_closed hd0 ⟨_, rfl⟩ hW hframe⟩
  jvm_step X.here [X.here.top, hx, hb, hdg, hmeth', hr, ret, narrow_b1]
  (try refine ⟨rfl, ?_⟩); (try refine ⟨rfl, ?_⟩)
  first | (intro acts; rw [hret _ acts rfl rfl rfl]) | rw [hret _ _ rfl rfl rfl]
  exact Steps.refl _
/-- what holds at the law's entry: the machine, the code, the tables' words (any of lw_tbl by 'hts w (by decide +kernel)'), the script of L ints xs at the cell b, what the Statement gives of the start (any of its parts by flat_of_before) -/
def lw_At (p : Program) (s : State) (m : MethodId) (meth : Method) (c : Code) (b L : Nat) (xs : Nat → Int32) : Prop :=
  p.tables.exec = Jvm.exec ∧ c.code = code ∧ meth.sig.returnType = ret ∧ c.maxLocals = 9 ∧ s.vm.findClass R_law = some m.cls ∧ (∀ w ∈ lw_tbl, w.before #[Value.ref b] s = true) ∧ va_X b L xs s s.heap ∧ b < s.heap.size ∧ meth.locks = false ∧ (Jvm.Cond.and given_1 narrow_1).before #[Value.ref b] s = true
-- ===== YOUR PART BEGINS =====
end
section
/-! THE CLASS'S STATE AND WORLD. s c i k: c = 0 chain[k]; 1 chainLength; 2 keyOfUpdate[k]; 3 valueOfUpdate[k]; 4 replies; 5 history, 6 acknowledged, 7 failed, 8 open of node i; 9 first, 10 size, 11 numbers[k] of queue i (2 * node + 0: updates, + 1: acknowledgements); 12 values[k] of node i. a j: the address of the world's cell j. -/
abbrev CS : Type := Nat → Nat → Nat → Nat
abbrev GG : Type := va_G × (ClassId × ClassId × ClassId × ClassId)
abbrev gI (g : GG) : ClassId := g.2.1
abbrev gZ (g : GG) : ClassId := g.2.2.1
abbrev gN (g : GG) : ClassId := g.2.2.2.1
abbrev gJ (g : GG) : ClassId := g.2.2.2.2
abbrev gT (g : GG) : List (ClassId × FieldType) := [(gI g, .int), (gZ g, .boolean), (gN g, .object RX1), (gJ g, .long)]
def w3 (s : CS) (c i k v : Nat) : CS := fun c' i' k' => if c' = c ∧ i' = i ∧ k' = k then v else s c' i' k'
theorem w3_eq {s : CS} {c i k v : Nat} : w3 s c i k v c i k = v := by simp [w3]
theorem w3_c {s : CS} {c i k v c' i' k' : Nat} (h : c' ≠ c) : w3 s c i k v c' i' k' = s c' i' k' := by simp [w3, h]
theorem w3_i {s : CS} {c i k v c' i' k' : Nat} (h : i' ≠ i) : w3 s c i k v c' i' k' = s c' i' k' := by simp [w3, h]
theorem w3_k {s : CS} {c i k v c' i' k' : Nat} (h : k' ≠ k) : w3 s c i k v c' i' k' = s c' i' k' := by simp [w3, h]
def bE (g : GG) (a : Nat → Nat) (n : Nat) (s : CS) (j : Nat) : va_E := match j with
  | 0 => .inr (3, [.ref (a 3), .ref (a 4), .int (nI (s 1 0 0)), .ref (a 1), .ref (a 2), .int (nI (s 4 0 0))])
  | 1 => .inl (gI g, 41, .inl (fun k => nI (s 2 0 k)))
  | 2 => .inl (gI g, 41, .inl (fun k => nI (s 3 0 k)))
  | 3 => .inl (gN g, n, .inr (.inr (.inr (.inr (fun k => if k < n then some (a (7 * k + 5)) else none)))))
  | _ => .inl (gI g, n, .inl (fun k => nI (s 0 0 k)))
def nE (g : GG) (a : Nat → Nat) (s : CS) (i r : Nat) : va_E := match r with
  | 0 => .inr (1, [.ref (a (7 * i + 6)), .ref (a (7 * i + 7)), .int (nI (s 5 i 0)), .int (nI (s 6 i 0)), .int (nI (s 7 i 0))])
  | 1 => .inl (gI g, 8, .inl (fun k => nI (s 12 i k)))
  | 2 => .inr (0, [.ref (a (7 * i + 8)), .ref (a (7 * i + 10)), .int (nI (s 8 i 0))])
  | 3 => .inr (2, [.ref (a (7 * i + 9)), .int (nI (s 9 (2 * i) 0)), .int (nI (s 10 (2 * i) 0))])
  | 4 => .inl (gI g, 40, .inl (fun k => nI (s 11 (2 * i) k)))
  | 5 => .inr (2, [.ref (a (7 * i + 11)), .int (nI (s 9 (2 * i + 1) 0)), .int (nI (s 10 (2 * i + 1) 0))])
  | _ => .inl (gI g, 40, .inl (fun k => nI (s 11 (2 * i + 1) k)))
def cE (g : GG) (a : Nat → Nat) (n : Nat) (s : CS) (j : Nat) : va_E := if j < 5 then bE g a n s j else nE g a s ((j - 5) / 7) ((j - 5) % 7)
def wC (g : GG) (a : Nat → Nat) (n : Nat) (s : CS) : va_W := (List.range (5 + 7 * n)).map (fun j => (a j, cE g a n s j))
theorem wC_at {g : GG} {a : Nat → Nat} {n : Nat} {s : CS} {j : Nat} (h : j < 5 + 7 * n) : (wC g a n s)[j]? = some (a j, cE g a n s j) := by
  simp [wC, h]
theorem wC_b {g : GG} {a : Nat → Nat} {n : Nat} {s : CS} {j : Nat} (h : j < 5) : (wC g a n s)[j]? = some (a j, bE g a n s j) := by
  rw [wC_at (by omega)]; simp [cE, h]
theorem cE_n {g : GG} {a : Nat → Nat} {n : Nat} {s : CS} {i r : Nat} (hr : r < 7) : cE g a n s (7 * i + (5 + r)) = nE g a s i r := by
  have h1 : ¬ (7 * i + (5 + r) < 5) := by omega
  have h2 : (7 * i + (5 + r) - 5) / 7 = i := by omega
  have h3 : (7 * i + (5 + r) - 5) % 7 = r := by omega
  simp [cE, h1, h2, h3]
theorem wC_n {g : GG} {a : Nat → Nat} {n : Nat} {s : CS} {i : Nat} (r : Nat) (hi : i < n) (hr : r < 7) : (wC g a n s)[7 * i + (5 + r)]? = some (a (7 * i + (5 + r)), nE g a s i r) := by
  rw [wC_at (by omega), cE_n hr]
theorem wC_node {g : GG} {a : Nat → Nat} {n : Nat} {s : CS} {i : Nat} (hi : i < n) : (wC g a n s)[7 * i + 5]? = some (a (7 * i + 5), .inr (1, [.ref (a (7 * i + 6)), .ref (a (7 * i + 7)), .int (nI (s 5 i 0)), .int (nI (s 6 i 0)), .int (nI (s 7 i 0))])) := wC_n 0 hi (by omega)
theorem wC_vals {g : GG} {a : Nat → Nat} {n : Nat} {s : CS} {i : Nat} (hi : i < n) : (wC g a n s)[7 * i + 6]? = some (a (7 * i + 6), .inl (gI g, 8, .inl (fun k => nI (s 12 i k)))) := wC_n 1 hi (by omega)
theorem wC_link {g : GG} {a : Nat → Nat} {n : Nat} {s : CS} {i : Nat} (hi : i < n) : (wC g a n s)[7 * i + 7]? = some (a (7 * i + 7), .inr (0, [.ref (a (7 * i + 8)), .ref (a (7 * i + 10)), .int (nI (s 8 i 0))])) := wC_n 2 hi (by omega)
theorem wC_q {g : GG} {a : Nat → Nat} {n : Nat} {s : CS} {i w : Nat} (hi : i < n) (hw : w < 2) : (wC g a n s)[7 * i + 8 + 2 * w]? = some (a (7 * i + 8 + 2 * w), .inr (2, [.ref (a (7 * i + 9 + 2 * w)), .int (nI (s 9 (2 * i + w) 0)), .int (nI (s 10 (2 * i + w) 0))])) := by
  rcases (show w = 0 ∨ w = 1 by omega) with rfl | rfl
  · exact wC_n 3 hi (by omega)
  · exact wC_n 5 hi (by omega)
theorem wC_row {g : GG} {a : Nat → Nat} {n : Nat} {s : CS} {i w : Nat} (hi : i < n) (hw : w < 2) : (wC g a n s)[7 * i + 9 + 2 * w]? = some (a (7 * i + 9 + 2 * w), .inl (gI g, 40, .inl (fun k => nI (s 11 (2 * i + w) k)))) := by
  rcases (show w = 0 ∨ w = 1 by omega) with rfl | rfl
  · exact wC_n 4 hi (by omega)
  · exact wC_n 6 hi (by omega)
theorem wC_obj {g : GG} {a : Nat → Nat} {n : Nat} {s : CS} : (wC g a n s)[0]? = some (a 0, .inr (3, [.ref (a 3), .ref (a 4), .int (nI (s 1 0 0)), .ref (a 1), .ref (a 2), .int (nI (s 4 0 0))])) := wC_b (by omega)
theorem wC_keys {g : GG} {a : Nat → Nat} {n : Nat} {s : CS} : (wC g a n s)[1]? = some (a 1, .inl (gI g, 41, .inl (fun k => nI (s 2 0 k)))) := wC_b (by omega)
theorem wC_vs {g : GG} {a : Nat → Nat} {n : Nat} {s : CS} : (wC g a n s)[2]? = some (a 2, .inl (gI g, 41, .inl (fun k => nI (s 3 0 k)))) := wC_b (by omega)
theorem wC_nodes {g : GG} {a : Nat → Nat} {n : Nat} {s : CS} : (wC g a n s)[3]? = some (a 3, .inl (gN g, n, .inr (.inr (.inr (.inr (fun k => if k < n then some (a (7 * k + 5)) else none)))))) := wC_b (by omega)
theorem wC_chain {g : GG} {a : Nat → Nat} {n : Nat} {s : CS} : (wC g a n s)[4]? = some (a 4, .inl (gI g, n, .inl (fun k => nI (s 0 0 k)))) := wC_b (by omega)
/-- one cell set: the world of another state -/
theorem wC_set {g : GG} {a : Nat → Nat} {n : Nat} {s s' : CS} {j : Nat} {e : va_E} (hs : cE g a n s' j = e) (ho : ∀ j', j' ≠ j → cE g a n s' j' = cE g a n s j') : (wC g a n s).set j (a j, e) = wC g a n s' := by
  apply List.ext_getElem?
  intro k
  rw [List.getElem?_set]
  by_cases hk : j = k
  · subst hk
    by_cases hj : j < 5 + 7 * n
    · simp [wC, hj, hs]
    · simp [wC, hj]
  · simp only [hk, if_false]
    by_cases hj : k < 5 + 7 * n
    · simp [wC, hj, ho k (Ne.symm hk)]
    · simp [wC, hj]
theorem cE_other {g : GG} {a : Nat → Nat} {n : Nat} {s s' : CS} {j : Nat} (hb : ∀ j', j' < 5 → j' ≠ j → bE g a n s' j' = bE g a n s j') (hn : ∀ i r, r < 7 → 7 * i + (5 + r) ≠ j → nE g a s' i r = nE g a s i r) : ∀ j', j' ≠ j → cE g a n s' j' = cE g a n s j' := by
  intro j' hne
  by_cases h5 : j' < 5
  · simp only [cE, h5, if_true]; exact hb j' h5 hne
  · simp only [cE, h5, if_false]
    exact hn _ _ (by omega) (by omega)
theorem wC_setB {g : GG} {a : Nat → Nat} {n : Nat} {s s' : CS} {j : Nat} {e : va_E} (hj : j < 5) (hs : bE g a n s' j = e) (hb : ∀ j', j' < 5 → j' ≠ j → bE g a n s' j' = bE g a n s j') (hn : ∀ i r, nE g a s' i r = nE g a s i r) : (wC g a n s).set j (a j, e) = wC g a n s' :=
  wC_set (by simp [cE, hj, hs]) (cE_other hb (fun i r _ _ => hn i r))
theorem wC_setN {g : GG} {a : Nat → Nat} {n : Nat} {s s' : CS} {i r : Nat} {e : va_E} (hr : r < 7) (hs : nE g a s' i r = e) (hb : ∀ j', bE g a n s' j' = bE g a n s j') (hn : ∀ i' r', r' < 7 → (i' ≠ i ∨ r' ≠ r) → nE g a s' i' r' = nE g a s i' r') : (wC g a n s).set (7 * i + (5 + r)) (a (7 * i + (5 + r)), e) = wC g a n s' :=
  wC_set (by rw [cE_n hr]; exact hs) (cE_other (fun j' _ _ => hb j') (fun i' r' hr' hne => hn i' r' hr' (by omega)))
theorem wp_hist {g : GG} {a : Nat → Nat} {n : Nat} {s : CS} {i v : Nat} : (wC g a n s).set (7 * i + 5) (a (7 * i + 5), .inr (1, [.ref (a (7 * i + 6)), .ref (a (7 * i + 7)), .int (nI v), .int (nI (s 6 i 0)), .int (nI (s 7 i 0))])) = wC g a n (w3 s 5 i 0 v) := by
  refine wC_setN (r := 0) (by omega) ?_ ?_ ?_
  · simp [nE, w3]
  · intro j; unfold bE; split <;> simp [w3]
  · intro i' r' h7 h; have e : ∀ c' i'' k', ¬ (c' = 5 ∧ i'' = i ∧ k' = 0) → w3 s 5 i 0 v c' i'' k' = s c' i'' k' := fun _ _ _ q => if_neg q
    rcases (show r' = 0 ∨ r' = 1 ∨ r' = 2 ∨ r' = 3 ∨ r' = 4 ∨ r' = 5 ∨ r' = 6 by omega) with rfl | rfl | rfl | rfl | rfl | rfl | rfl <;> simp only [nE] <;> (try simp (discharger := omega) only [e])
theorem wp_ackd {g : GG} {a : Nat → Nat} {n : Nat} {s : CS} {i v : Nat} : (wC g a n s).set (7 * i + 5) (a (7 * i + 5), .inr (1, [.ref (a (7 * i + 6)), .ref (a (7 * i + 7)), .int (nI (s 5 i 0)), .int (nI v), .int (nI (s 7 i 0))])) = wC g a n (w3 s 6 i 0 v) := by
  refine wC_setN (r := 0) (by omega) ?_ ?_ ?_
  · simp [nE, w3]
  · intro j; unfold bE; split <;> simp [w3]
  · intro i' r' h7 h; have e : ∀ c' i'' k', ¬ (c' = 6 ∧ i'' = i ∧ k' = 0) → w3 s 6 i 0 v c' i'' k' = s c' i'' k' := fun _ _ _ q => if_neg q
    rcases (show r' = 0 ∨ r' = 1 ∨ r' = 2 ∨ r' = 3 ∨ r' = 4 ∨ r' = 5 ∨ r' = 6 by omega) with rfl | rfl | rfl | rfl | rfl | rfl | rfl <;> simp only [nE] <;> (try simp (discharger := omega) only [e])
theorem wp_fail {g : GG} {a : Nat → Nat} {n : Nat} {s : CS} {i v : Nat} : (wC g a n s).set (7 * i + 5) (a (7 * i + 5), .inr (1, [.ref (a (7 * i + 6)), .ref (a (7 * i + 7)), .int (nI (s 5 i 0)), .int (nI (s 6 i 0)), .int (nI v)])) = wC g a n (w3 s 7 i 0 v) := by
  refine wC_setN (r := 0) (by omega) ?_ ?_ ?_
  · simp [nE, w3]
  · intro j; unfold bE; split <;> simp [w3]
  · intro i' r' h7 h; have e : ∀ c' i'' k', ¬ (c' = 7 ∧ i'' = i ∧ k' = 0) → w3 s 7 i 0 v c' i'' k' = s c' i'' k' := fun _ _ _ q => if_neg q
    rcases (show r' = 0 ∨ r' = 1 ∨ r' = 2 ∨ r' = 3 ∨ r' = 4 ∨ r' = 5 ∨ r' = 6 by omega) with rfl | rfl | rfl | rfl | rfl | rfl | rfl <;> simp only [nE] <;> (try simp (discharger := omega) only [e])
theorem wp_open {g : GG} {a : Nat → Nat} {n : Nat} {s : CS} {i v : Nat} : (wC g a n s).set (7 * i + 7) (a (7 * i + 7), .inr (0, [.ref (a (7 * i + 8)), .ref (a (7 * i + 10)), .int (nI v)])) = wC g a n (w3 s 8 i 0 v) := by
  refine wC_setN (r := 2) (by omega) ?_ ?_ ?_
  · simp [nE, w3]
  · intro j; unfold bE; split <;> simp [w3]
  · intro i' r' h7 h; have e : ∀ c' i'' k', ¬ (c' = 8 ∧ i'' = i ∧ k' = 0) → w3 s 8 i 0 v c' i'' k' = s c' i'' k' := fun _ _ _ q => if_neg q
    rcases (show r' = 0 ∨ r' = 1 ∨ r' = 2 ∨ r' = 3 ∨ r' = 4 ∨ r' = 5 ∨ r' = 6 by omega) with rfl | rfl | rfl | rfl | rfl | rfl | rfl <;> simp only [nE] <;> (try simp (discharger := omega) only [e])
theorem wp_vals {g : GG} {a : Nat → Nat} {n : Nat} {s : CS} {i k0 v : Nat} : (wC g a n s).set (7 * i + 6) (a (7 * i + 6), .inl (gI g, 8, .inl (upd (fun k => nI (s 12 i k)) k0 (nI v)))) = wC g a n (w3 s 12 i k0 v) := by
  refine wC_setN (r := 1) (by omega) ?_ ?_ ?_
  · simp only [nE]; congr; funext k; by_cases hk : k = k0 <;> simp [w3, upd, hk]
  · intro j; unfold bE; split <;> simp [w3]
  · intro i' r' h7 h; have e : ∀ c' i'' k', ¬ (c' = 12 ∧ i'' = i ∧ k' = k0) → w3 s 12 i k0 v c' i'' k' = s c' i'' k' := fun _ _ _ q => if_neg q
    rcases (show r' = 0 ∨ r' = 1 ∨ r' = 2 ∨ r' = 3 ∨ r' = 4 ∨ r' = 5 ∨ r' = 6 by omega) with rfl | rfl | rfl | rfl | rfl | rfl | rfl <;> simp only [nE] <;> (try simp (discharger := omega) only [e])
theorem wp_first {g : GG} {a : Nat → Nat} {n : Nat} {s : CS} {i w v : Nat} (hw : w < 2) : (wC g a n s).set (7 * i + 8 + 2 * w) (a (7 * i + 8 + 2 * w), .inr (2, [.ref (a (7 * i + 9 + 2 * w)), .int (nI v), .int (nI (s 10 (2 * i + w) 0))])) = wC g a n (w3 s 9 (2 * i + w) 0 v) := by
  rcases (show w = 0 ∨ w = 1 by omega) with rfl | rfl
  · refine wC_setN (r := 3) (by omega) ?_ ?_ ?_
    · simp [nE, w3]
    · intro j; unfold bE; split <;> simp [w3]
    · intro i' r' h7 h; have e : ∀ c' i'' k', ¬ (c' = 9 ∧ i'' = (2 * i + 0) ∧ k' = 0) → w3 s 9 (2 * i + 0) 0 v c' i'' k' = s c' i'' k' := fun _ _ _ q => if_neg q
      rcases (show r' = 0 ∨ r' = 1 ∨ r' = 2 ∨ r' = 3 ∨ r' = 4 ∨ r' = 5 ∨ r' = 6 by omega) with rfl | rfl | rfl | rfl | rfl | rfl | rfl <;> simp only [nE] <;> (try simp (discharger := omega) only [e])
  · refine wC_setN (r := 5) (by omega) ?_ ?_ ?_
    · simp [nE, w3]
    · intro j; unfold bE; split <;> simp [w3]
    · intro i' r' h7 h; have e : ∀ c' i'' k', ¬ (c' = 9 ∧ i'' = (2 * i + 1) ∧ k' = 0) → w3 s 9 (2 * i + 1) 0 v c' i'' k' = s c' i'' k' := fun _ _ _ q => if_neg q
      rcases (show r' = 0 ∨ r' = 1 ∨ r' = 2 ∨ r' = 3 ∨ r' = 4 ∨ r' = 5 ∨ r' = 6 by omega) with rfl | rfl | rfl | rfl | rfl | rfl | rfl <;> simp only [nE] <;> (try simp (discharger := omega) only [e])
theorem wp_size {g : GG} {a : Nat → Nat} {n : Nat} {s : CS} {i w v : Nat} (hw : w < 2) : (wC g a n s).set (7 * i + 8 + 2 * w) (a (7 * i + 8 + 2 * w), .inr (2, [.ref (a (7 * i + 9 + 2 * w)), .int (nI (s 9 (2 * i + w) 0)), .int (nI v)])) = wC g a n (w3 s 10 (2 * i + w) 0 v) := by
  rcases (show w = 0 ∨ w = 1 by omega) with rfl | rfl
  · refine wC_setN (r := 3) (by omega) ?_ ?_ ?_
    · simp [nE, w3]
    · intro j; unfold bE; split <;> simp [w3]
    · intro i' r' h7 h; have e : ∀ c' i'' k', ¬ (c' = 10 ∧ i'' = (2 * i + 0) ∧ k' = 0) → w3 s 10 (2 * i + 0) 0 v c' i'' k' = s c' i'' k' := fun _ _ _ q => if_neg q
      rcases (show r' = 0 ∨ r' = 1 ∨ r' = 2 ∨ r' = 3 ∨ r' = 4 ∨ r' = 5 ∨ r' = 6 by omega) with rfl | rfl | rfl | rfl | rfl | rfl | rfl <;> simp only [nE] <;> (try simp (discharger := omega) only [e])
  · refine wC_setN (r := 5) (by omega) ?_ ?_ ?_
    · simp [nE, w3]
    · intro j; unfold bE; split <;> simp [w3]
    · intro i' r' h7 h; have e : ∀ c' i'' k', ¬ (c' = 10 ∧ i'' = (2 * i + 1) ∧ k' = 0) → w3 s 10 (2 * i + 1) 0 v c' i'' k' = s c' i'' k' := fun _ _ _ q => if_neg q
      rcases (show r' = 0 ∨ r' = 1 ∨ r' = 2 ∨ r' = 3 ∨ r' = 4 ∨ r' = 5 ∨ r' = 6 by omega) with rfl | rfl | rfl | rfl | rfl | rfl | rfl <;> simp only [nE] <;> (try simp (discharger := omega) only [e])
theorem wp_row {g : GG} {a : Nat → Nat} {n : Nat} {s : CS} {i w k0 v : Nat} (hw : w < 2) : (wC g a n s).set (7 * i + 9 + 2 * w) (a (7 * i + 9 + 2 * w), .inl (gI g, 40, .inl (upd (fun k => nI (s 11 (2 * i + w) k)) k0 (nI v)))) = wC g a n (w3 s 11 (2 * i + w) k0 v) := by
  rcases (show w = 0 ∨ w = 1 by omega) with rfl | rfl
  · refine wC_setN (r := 4) (by omega) ?_ ?_ ?_
    · simp only [nE]; congr; funext k; by_cases hk : k = k0 <;> simp [w3, upd, hk]
    · intro j; unfold bE; split <;> simp [w3]
    · intro i' r' h7 h; have e : ∀ c' i'' k', ¬ (c' = 11 ∧ i'' = (2 * i + 0) ∧ k' = k0) → w3 s 11 (2 * i + 0) k0 v c' i'' k' = s c' i'' k' := fun _ _ _ q => if_neg q
      rcases (show r' = 0 ∨ r' = 1 ∨ r' = 2 ∨ r' = 3 ∨ r' = 4 ∨ r' = 5 ∨ r' = 6 by omega) with rfl | rfl | rfl | rfl | rfl | rfl | rfl <;> simp only [nE] <;> (try simp (discharger := omega) only [e])
  · refine wC_setN (r := 6) (by omega) ?_ ?_ ?_
    · simp only [nE]; congr; funext k; by_cases hk : k = k0 <;> simp [w3, upd, hk]
    · intro j; unfold bE; split <;> simp [w3]
    · intro i' r' h7 h; have e : ∀ c' i'' k', ¬ (c' = 11 ∧ i'' = (2 * i + 1) ∧ k' = k0) → w3 s 11 (2 * i + 1) k0 v c' i'' k' = s c' i'' k' := fun _ _ _ q => if_neg q
      rcases (show r' = 0 ∨ r' = 1 ∨ r' = 2 ∨ r' = 3 ∨ r' = 4 ∨ r' = 5 ∨ r' = 6 by omega) with rfl | rfl | rfl | rfl | rfl | rfl | rfl <;> simp only [nE] <;> (try simp (discharger := omega) only [e])
theorem wp_keys {g : GG} {a : Nat → Nat} {n : Nat} {s : CS} {k0 v : Nat} : (wC g a n s).set 1 (a 1, .inl (gI g, 41, .inl (upd (fun k => nI (s 2 0 k)) k0 (nI v)))) = wC g a n (w3 s 2 0 k0 v) := by
  refine wC_setB (by omega) ?_ ?_ ?_
  · simp only [bE]; congr; funext k; by_cases hk : k = k0 <;> simp [w3, upd, hk]
  · intro j h5 hne; unfold bE; split <;> simp_all [w3] <;> omega
  · intro i r; unfold nE; split <;> simp [w3]
theorem wp_vs {g : GG} {a : Nat → Nat} {n : Nat} {s : CS} {k0 v : Nat} : (wC g a n s).set 2 (a 2, .inl (gI g, 41, .inl (upd (fun k => nI (s 3 0 k)) k0 (nI v)))) = wC g a n (w3 s 3 0 k0 v) := by
  refine wC_setB (by omega) ?_ ?_ ?_
  · simp only [bE]; congr; funext k; by_cases hk : k = k0 <;> simp [w3, upd, hk]
  · intro j h5 hne; unfold bE; split <;> simp_all [w3] <;> omega
  · intro i r; unfold nE; split <;> simp [w3]
theorem wp_chain {g : GG} {a : Nat → Nat} {n : Nat} {s : CS} {k0 v : Nat} : (wC g a n s).set 4 (a 4, .inl (gI g, n, .inl (upd (fun k => nI (s 0 0 k)) k0 (nI v)))) = wC g a n (w3 s 0 0 k0 v) := by
  refine wC_setB (by omega) ?_ ?_ ?_
  · simp only [bE]; congr; funext k; by_cases hk : k = k0 <;> simp [w3, upd, hk]
  · intro j h5 hne; unfold bE; split <;> simp_all [w3] <;> omega
  · intro i r; unfold nE; split <;> simp [w3]
theorem wp_len {g : GG} {a : Nat → Nat} {n : Nat} {s : CS} {v : Nat} : (wC g a n s).set 0 (a 0, .inr (3, [.ref (a 3), .ref (a 4), .int (nI v), .ref (a 1), .ref (a 2), .int (nI (s 4 0 0))])) = wC g a n (w3 s 1 0 0 v) := by
  refine wC_setB (by omega) ?_ ?_ ?_
  · simp [bE, w3]
  · intro j h5 hne; unfold bE; split <;> simp_all [w3]
  · intro i r; unfold nE; split <;> simp [w3]
theorem wp_repl {g : GG} {a : Nat → Nat} {n : Nat} {s : CS} {v : Nat} : (wC g a n s).set 0 (a 0, .inr (3, [.ref (a 3), .ref (a 4), .int (nI (s 1 0 0)), .ref (a 1), .ref (a 2), .int (nI v)])) = wC g a n (w3 s 4 0 0 v) := by
  refine wC_setB (by omega) ?_ ?_ ?_
  · simp [bE, w3]
  · intro j h5 hne; unfold bE; split <;> simp_all [w3]
  · intro i r; unfold nE; split <;> simp [w3]
theorem P_eq {D : va_G} {cl : List vw_C} {w1 w2 : va_W} {H : Heap} (e : w1 = w2) (h : va_P D cl w1 H) : va_P D cl w2 H := e ▸ h
end
section
/-! ROWS OF THIS PROOF: the words of the nest, contracts in one form, calls, array reads and ends over naturals -/
def nWs : List Cond := [.fieldLinkNest RX3 154 RX2 "size" "I" RX3, .fieldLinkNest RX3 92 RX0 "updates" "LSplicedChain$Queue;" RX3, .fieldLinkNest RX3 109 RX0 "acknowledgements" "LSplicedChain$Queue;" RX3, .fieldLinkNest RX3 136 RX0 "open" "Z" RX3, .fieldLinkNest RX3 66 RX1 "values" "[I" RX3, .fieldLinkNest RX3 88 RX1 "link" "LSplicedChain$Link;" RX3, .fieldLinkNest RX3 52 RX1 "history" "I" RX3, .fieldLinkNest RX3 139 RX1 "acknowledged" "I" RX3, .fieldLinkNest RX3 48 RX1 "failed" "Z" RX3]
def nMs : List (String × Nat × MethodName) := [(RX3, 32, yX1_init), (RX1, 17, yX0_init), (RX0, 9, yX2_init)]
def nFs : List (Nat × String × String × String) := [(154, RX2, "size", "I"), (92, RX0, "updates", "LSplicedChain$Queue;"), (109, RX0, "acknowledgements", "LSplicedChain$Queue;"), (136, RX0, "open", "Z"), (66, RX1, "values", "[I"), (88, RX1, "link", "LSplicedChain$Link;"), (52, RX1, "history", "I"), (139, RX1, "acknowledged", "I"), (48, RX1, "failed", "Z")]
def Cx (g : GG) (U : State) : Prop := va_K g.1 vwCl (gT g) U ∧ (∀ q ∈ nFs, va_Nw (.fieldLinkNest RX3 q.1 q.2.1 q.2.2.1 q.2.2.2 RX3) U) ∧ ∀ q ∈ nMs, va_Nw (.methodLinkNest q.1 q.2.1 q.2.2 RX3) U
theorem Cx.moved {g : GG} {s U : State} (hW : s.WarmedH U.vm) (h : Cx g s) : Cx g U := ⟨va_K.moved hW.alike h.1, fun q hq => va_Nw.warmF hW (h.2.1 q hq), fun q hq => va_Nw.warmM hW (h.2.2 q hq)⟩
theorem Cx.same {g : GG} {s U : State} (hv : s.vm = U.vm) (h : Cx g s) : Cx g U := ⟨va_K.moved (by rw [hv]; exact Vm.Alike.refl U.vm) h.1, fun q hq => va_Nw.same rfl hv (h.2.1 q hq), fun q hq => va_Nw.same rfl hv (h.2.2 q hq)⟩
theorem Cx.F {g : GG} {s : State} {args : Array Value} (h : Cx g s) {i : Nat} {r n d : String} (hq : (i, r, n, d) ∈ nFs) : (Cond.fieldLinkNest RX3 i r n d RX3).before args s = true := va_Nw.use rfl (h.2.1 _ hq)
abbrev pC (g : GG) (av : List Value) (w : va_W) : Array Value → State → Prop := va_Pc av (fun U => va_P g.1 vwCl w U.heap ∧ Cx g U)
abbrev qI (g : GG) (r : Int32) (w : va_W) (A : Nat → Prop) := va_Qi (S := Unit) (fun x _ => x = r) (fun _ t => va_P g.1 vwCl w t.heap) A
abbrev qV (g : GG) (w : va_W) (A : Nat → Prop) := va_Qv (S := Unit) (fun _ => True) (fun _ t => va_P g.1 vwCl w t.heap) A
abbrev qR (g : GG) (r : Nat) (w : va_W) (A : Nat → Prop) := va_Qr (S := Unit) (fun _ => True) (fun _ x t => x = r ∧ va_P g.1 vwCl w t.heap) A
theorem pC_blind {g : GG} {av : List Value} {w : va_W} : FrameBlind (pC g av w) := fun a U g' mk q => ⟨q.1, q.2.1, q.2.2.same rfl⟩
/-- the world's addresses: apart, and in A -/
def Ap (A : Nat → Prop) (a : Nat → Nat) (N : Nat) : Prop := (∀ i j, i < N → j < N → a i = a j → i = j) ∧ ∀ k, k < N → A (a k)
theorem wC_len {g : GG} {a : Nat → Nat} {n : Nat} {s : CS} : (wC g a n s).length = 5 + 7 * n := by simp [wC]
theorem Ap.D {A : Nat → Prop} {a : Nat → Nat} {n : Nat} (h : Ap A a (5 + 7 * n)) {g : GG} {s : CS} : va_D A (wC g a n s) := by
  have key : ∀ (k : Nat) (q : Nat × va_E), (wC g a n s)[k]? = some q → k < 5 + 7 * n ∧ q.1 = a k := by
    intro k q hk
    have hl := (List.getElem?_eq_some_iff.mp hk).1
    rw [wC_len] at hl
    rw [wC_at hl] at hk
    exact ⟨hl, by rw [← Option.some.inj hk]⟩
  refine ⟨fun i j x y hi hj hxy => ?_, fun k q hk => ?_⟩
  · obtain ⟨h1, e1⟩ := key i x hi
    obtain ⟨h2, e2⟩ := key j y hj
    exact h.1 i j h1 h2 (by rw [← e1, ← e2]; exact hxy)
  · obtain ⟨h1, e1⟩ := key k q hk
    rw [e1]; exact h.2 k h1
section KS
variable {l : Launch} {g : GG}
/-- a method's start -/
theorem k_start {y : MethodName} {ws ws' : List Cond} {rm : Room} {av : List Value} {w : va_W} {Qc : Array Value → State → Outcome → State → Prop} {mc ms : Nat} {free : Addr → Prop} {cc : ByteArray} {maxL : Nat} {ret : Option FieldType}
    (hy : plainName y.cls = true) (hw : ws = Cond.code y cc maxL ret :: ws') (hn : (lg_sl av).length ≤ maxL)
    (body : ∀ (p : Program) (e : Env) (s : State) (m : MethodId) (args : Array Value) (below : List Frame) (meth : Method) (c : Code), p.tables.exec = Jvm.exec → c.code = cc → c.maxLocals = maxL → meth.sig.returnType = ret → meth.locks = false → (∀ w ∈ ws, w.before args s = true) → s.vm.findClass y.cls = some m.cls → meth.name = y.name → Cx g s → va_P g.1 vwCl w s.heap → ∀ ls : Array Slot, lv_has ls maxL (lv_args 0 av) →
      W p l e rm s m args below meth c s.heap [] 0 0 (MQ below Qc args s mc ms free) (F0 m 0 ls [])) : Met l y ws rm (pC g av w) Qc mc ms free := by
  refine Met.ofW (cc := cc) (maxL := maxL) (ret := ret) hy hw ?_
  intro p e s m args below meth c s₁ B hml hv
  obtain ⟨rfl, hP, hC⟩ := hv
  rw [lg_entry_eq]
  exact body p e s m _ below meth c B.exec B.bytes hml B.returns B.notSynchronized (atoms_spec (ws := ws) B.pre) (findClass_of_methodNamed B.named) (name_of_methodNamed B.named B.method).1 hC hP _ (lv_entry av hn)
end KS
section KC
variable {p : Program} {l : Launch} {e : Env} {R : Room} {s : State} {m : MethodId} {args : Array Value} {below : List Frame} {meth : Method} {c : Code} {H : Heap} {locs : List Loc} {cells slots : Nat} {Q : State → Prop}
variable {y : MethodName} {bytes cc : ByteArray} {maxL nL mc ms n index pc : Nat} {ret : Option FieldType} {ws : List Cond} {rm : Room} {Ts : List Cond} {own C : String} {b : Addr} {As rest st0 : List Value} {ls : Array Slot} {g : GG} {A0 A1 : Nat → Prop} {w w2 : va_W} {H0 : Heap}
theorem kV_pre {C : String} (hC : Cx g s) (hP : va_P g.1 vwCl w H) (hrc : ∃ cell : Cell, H[b]? = some cell ∧ cell.vm.isStatics = false ∧ s.vm.findClass C = some cell.cls) : PreV s H C b (pC g (.ref b :: As) w) As :=
  ⟨pC_blind, hrc, fun U hU hW => ⟨rfl, by rw [hU]; exact hP, hC.moved hW⟩⟩
theorem kS_pre (hC : Cx g s) (hP : va_P g.1 vwCl w H) : PreS s H (pC g As w) As :=
  ⟨pC_blind, fun U hU hW => ⟨rfl, by rw [hU]; exact hP, hC.moved hW⟩⟩
/-- invokevirtual, an int comes back -/
theorem kV_i {r : Int32} (S : CallFix p m c cc nL s args Ts own) (hM : Met l y ws rm (pC g (.ref b :: As) w) (qI g r w2 A1) mc ms A1) (cw : CallW R s args own C index y bytes maxL ret ws rm mc ms n) (hrc : ∃ cell : Cell, H[b]? = some cell ∧ cell.vm.isStatics = false ∧ s.vm.findClass C = some cell.cls) (hC : Cx g s) (hP : va_P g.1 vwCl w H) (hS : va_S A0 H0 H locs) (hA : ∀ q, A1 q → A0 q)
    (hn : As.length = n) (hz : ls.size = nL) (hst : st0 = As.reverse ++ .ref b :: rest) (hW : (rest.map fun v => v.category).sum ≤ 8) (hdg : decode cc pc = .ok (.invokevirtual index, 3)) (hf : cells + mc ≤ R.cells ∧ slots + ms ≤ R.slots)
    (kk : ∀ (H1 : Heap) (locs1 : List Loc), va_P g.1 vwCl w2 H1 → va_S A0 H0 H1 locs1 → H.size ≤ H1.size → (∀ q : Nat, q < H.size → ¬ A1 q → H1[q]? = H[q]?) → W p l e R s m args below meth c H1 locs1 (cells + mc) (slots + ms) Q (F0 m (pc + 3) ls (.int r :: rest))) : W p l e R s m args below meth c H locs cells slots Q (F0 m pc ls st0) := by
  refine va_calli (va_runV (As := As) (rest := rest) S hM cw (kV_pre hC hP hrc) rfl hn hz hst (lv_room (rest := st0) hW) hdg hf) hS (fun q _ h => hA q h) hA (fun x u t H1 locs1 ht hvm hx hB hz1 hk1 hS1 => ?_)
  subst hx; subst ht
  exact kk _ _ hB hS1 hz1 hk1
theorem kV_v (S : CallFix p m c cc nL s args Ts own) (hM : Met l y ws rm (pC g (.ref b :: As) w) (qV g w2 A1) mc ms A1) (cw : CallW R s args own C index y bytes maxL ret ws rm mc ms n) (hrc : ∃ cell : Cell, H[b]? = some cell ∧ cell.vm.isStatics = false ∧ s.vm.findClass C = some cell.cls) (hC : Cx g s) (hP : va_P g.1 vwCl w H) (hS : va_S A0 H0 H locs) (hA : ∀ q, A1 q → A0 q)
    (hn : As.length = n) (hz : ls.size = nL) (hst : st0 = As.reverse ++ .ref b :: rest) (hW : (rest.map fun v => v.category).sum ≤ 8) (hdg : decode cc pc = .ok (.invokevirtual index, 3)) (hf : cells + mc ≤ R.cells ∧ slots + ms ≤ R.slots)
    (kk : ∀ (H1 : Heap) (locs1 : List Loc), va_P g.1 vwCl w2 H1 → va_S A0 H0 H1 locs1 → H.size ≤ H1.size → (∀ q : Nat, q < H.size → ¬ A1 q → H1[q]? = H[q]?) → W p l e R s m args below meth c H1 locs1 (cells + mc) (slots + ms) Q (F0 m (pc + 3) ls rest)) : W p l e R s m args below meth c H locs cells slots Q (F0 m pc ls st0) := by
  refine va_callv (va_runV (As := As) (rest := rest) S hM cw (kV_pre hC hP hrc) rfl hn hz hst (lv_room (rest := st0) hW) hdg hf) hS (fun q _ h => hA q h) hA (fun u t H1 locs1 ht hvm hx hB hz1 hk1 hS1 => ?_)
  subst ht
  exact kk _ _ hB hS1 hz1 hk1
theorem kV_r {r : Nat} (S : CallFix p m c cc nL s args Ts own) (hM : Met l y ws rm (pC g (.ref b :: As) w) (qR g r w2 A1) mc ms A1) (cw : CallW R s args own C index y bytes maxL ret ws rm mc ms n) (hrc : ∃ cell : Cell, H[b]? = some cell ∧ cell.vm.isStatics = false ∧ s.vm.findClass C = some cell.cls) (hC : Cx g s) (hP : va_P g.1 vwCl w H) (hS : va_S A0 H0 H locs) (hA : ∀ q, A1 q → A0 q)
    (hn : As.length = n) (hz : ls.size = nL) (hst : st0 = As.reverse ++ .ref b :: rest) (hW : (rest.map fun v => v.category).sum ≤ 8) (hdg : decode cc pc = .ok (.invokevirtual index, 3)) (hf : cells + mc ≤ R.cells ∧ slots + ms ≤ R.slots)
    (kk : ∀ (H1 : Heap) (locs1 : List Loc), va_P g.1 vwCl w2 H1 → va_S A0 H0 H1 locs1 → H.size ≤ H1.size → (∀ q : Nat, q < H.size → ¬ A1 q → H1[q]? = H[q]?) → W p l e R s m args below meth c H1 locs1 (cells + mc) (slots + ms) Q (F0 m (pc + 3) ls (.ref r :: rest))) : W p l e R s m args below meth c H locs cells slots Q (F0 m pc ls st0) := by
  refine va_callr (va_runV (As := As) (rest := rest) S hM cw (kV_pre hC hP hrc) rfl hn hz hst (lv_room (rest := st0) hW) hdg hf) hS (fun q _ h => hA q h) hA (fun u ra t H1 locs1 ht hvm hx hB hz1 hk1 hS1 => ?_)
  obtain ⟨e1, hB⟩ := hB
  subst ht; subst e1
  exact kk _ _ hB hS1 hz1 hk1
/-- invokestatic, an int comes back -/
theorem kS_i {r : Int32} (S : CallFix p m c cc nL s args Ts own) (hM : Met l y ws rm (pC g As w) (qI g r w2 A1) mc ms A1) (cw : CallB R s args own index y bytes maxL ret ws rm mc ms n ∧ (Cond.static y).before args s = true) (hC : Cx g s) (hP : va_P g.1 vwCl w H) (hS : va_S A0 H0 H locs) (hA : ∀ q, A1 q → A0 q)
    (hn : As.length = n) (hz : ls.size = nL) (hst : st0 = As.reverse ++ rest) (hW : (rest.map fun v => v.category).sum ≤ 8) (hdg : decode cc pc = .ok (.invokestatic index, 3)) (hf : cells + mc ≤ R.cells ∧ slots + ms ≤ R.slots)
    (kk : ∀ (H1 : Heap) (locs1 : List Loc), va_P g.1 vwCl w2 H1 → va_S A0 H0 H1 locs1 → H.size ≤ H1.size → (∀ q : Nat, q < H.size → ¬ A1 q → H1[q]? = H[q]?) → W p l e R s m args below meth c H1 locs1 (cells + mc) (slots + ms) Q (F0 m (pc + 3) ls (.int r :: rest))) : W p l e R s m args below meth c H locs cells slots Q (F0 m pc ls st0) := by
  refine va_calli (va_runS (As := As) (rest := rest) S hM cw (kS_pre hC hP) rfl hn hz hst (lv_room (rest := st0) hW) hdg hf) hS (fun q _ h => hA q h) hA (fun x u t H1 locs1 ht hvm hx hB hz1 hk1 hS1 => ?_)
  subst hx; subst ht
  exact kk _ _ hB hS1 hz1 hk1
variable {ad : Nat}
/-- an int array's cell, by a natural index -/
theorem k_iald (hexec : p.tables.exec = Jvm.exec) (hb : c.code = cc) (hC : Cx g s) (hP : va_P g.1 vwCl w H) (q0 : Nat) {N : Nat} {f : Nat → Int32} (ha : w[q0]? = some (ad, .inl (gI g, N, .inl f))) {j : Nat} (hj : j < N) (hN : N < 2147483648) (hdg : decode cc pc = .ok (.iaload, 1))
    (kk : W p l e R s m args below meth c H locs cells slots Q (F0 m (pc + 1) ls (.int (f j) :: rest))) : W p l e R s m args below meth c H locs cells slots Q (F0 m pc ls (.int (nI j) :: .ref ad :: rest)) := by
  refine va_iald hexec hb hC.1 hP q0 0 ha rfl (vp_in_nI hj hN) hdg ?_
  rw [nI_clamp (Nat.lt_trans hj hN)]
  exact kk
theorem k_zald (hexec : p.tables.exec = Jvm.exec) (hb : c.code = cc) (hC : Cx g s) (hP : va_P g.1 vwCl w H) (q0 : Nat) {N : Nat} {f : Nat → Int32} (ha : w[q0]? = some (ad, .inl (gZ g, N, .inl f))) {j : Nat} (hj : j < N) (hN : N < 2147483648) (hdg : decode cc pc = .ok (.baload, 1))
    (kk : W p l e R s m args below meth c H locs cells slots Q (F0 m (pc + 1) ls (.int (f j) :: rest))) : W p l e R s m args below meth c H locs cells slots Q (F0 m pc ls (.int (nI j) :: .ref ad :: rest)) := by
  refine va_zald hexec hb hC.1 hP q0 1 ha rfl (vp_in_nI hj hN) hdg ?_
  rw [nI_clamp (Nat.lt_trans hj hN)]
  exact kk
theorem k_aald (hexec : p.tables.exec = Jvm.exec) (hb : c.code = cc) (hC : Cx g s) (hP : va_P g.1 vwCl w H) (q0 : Nat) {N : Nat} {f : Nat → Option Nat} (ha : w[q0]? = some (ad, .inl (gN g, N, .inr (.inr (.inr (.inr f)))))) {j x : Nat} (hj : j < N) (hN : N < 2147483648) (hf : f j = some x) (hdg : decode cc pc = .ok (.aaload, 1))
    (kk : W p l e R s m args below meth c H locs cells slots Q (F0 m (pc + 1) ls (.ref x :: rest))) : W p l e R s m args below meth c H locs cells slots Q (F0 m pc ls (.int (nI j) :: .ref ad :: rest)) := by
  refine va_aldq (C := RX1) hexec hb hC.1 hP q0 2 ha rfl (vp_in_nI hj hN) hdg ?_
  rw [nI_clamp (Nat.lt_trans hj hN), hf]
  exact kk
theorem k_iast (hexec : p.tables.exec = Jvm.exec) (hb : c.code = cc) (hC : Cx g s) (hP : va_P g.1 vwCl w H) (hD : va_D A0 w) (hS : va_S A0 H0 H locs) (q0 : Nat) {N : Nat} {f : Nat → Int32} (ha : w[q0]? = some (ad, .inl (gI g, N, .inl f))) {j : Nat} {x : Int32} (hj : j < N) (hN : N < 2147483648) (hdg : decode cc pc = .ok (.iastore, 1)) (hw : w.set q0 (ad, .inl (gI g, N, .inl (upd f j x))) = w2)
    (kk : ∀ (H1 : Heap) (locs1 : List Loc), va_P g.1 vwCl w2 H1 → va_S A0 H0 H1 locs1 → W p l e R s m args below meth c H1 locs1 cells slots Q (F0 m (pc + 1) ls rest)) : W p l e R s m args below meth c H locs cells slots Q (F0 m pc ls (.int x :: .int (nI j) :: .ref ad :: rest)) := by
  refine va_iast hexec hb hC.1 hP hD hS q0 0 ha rfl (vp_in_nI hj hN) hdg (fun H1 locs1 hP1 _ hS1 => ?_)
  rw [nI_clamp (Nat.lt_trans hj hN), hw] at hP1
  exact kk H1 locs1 hP1 hS1
theorem k_zast (hexec : p.tables.exec = Jvm.exec) (hb : c.code = cc) (hC : Cx g s) (hP : va_P g.1 vwCl w H) (hD : va_D A0 w) (hS : va_S A0 H0 H locs) (q0 : Nat) {N : Nat} {f : Nat → Int32} (ha : w[q0]? = some (ad, .inl (gZ g, N, .inl f))) {j : Nat} {x : Int32} (hj : j < N) (hN : N < 2147483648) (hx : vp_nar .boolean x = x) (hdg : decode cc pc = .ok (.bastore, 1)) (hw : w.set q0 (ad, .inl (gZ g, N, .inl (upd f j x))) = w2)
    (kk : ∀ (H1 : Heap) (locs1 : List Loc), va_P g.1 vwCl w2 H1 → va_S A0 H0 H1 locs1 → W p l e R s m args below meth c H1 locs1 cells slots Q (F0 m (pc + 1) ls rest)) : W p l e R s m args below meth c H locs cells slots Q (F0 m pc ls (.int x :: .int (nI j) :: .ref ad :: rest)) := by
  refine va_zast hexec hb hC.1 hP hD hS q0 1 ha rfl (vp_in_nI hj hN) hdg (fun H1 locs1 hP1 _ hS1 => ?_)
  rw [nI_clamp (Nat.lt_trans hj hN), hx, hw] at hP1
  exact kk H1 locs1 hP1 hS1
/-- ends -/
theorem k_iret {r v : Int32} (hexec : p.tables.exec = Jvm.exec) (hb : c.code = cc) (hr : meth.sig.returnType = some .int) (hlk : meth.locks = false) (hv : v = r) (hP : va_P g.1 vwCl w H) (hS : va_S A0 s.heap H locs) (hdg : decode cc pc = .ok (.ireturn, 1)) : W p l e R s m args below meth c H locs cells slots (MQ below (qI g r w A0) args s cells slots A0) (F0 m pc ls [.int v]) :=
  W.iret (v := v) hexec hb hr (fun t ht hW => ⟨⟨v, (), rfl, hv, by show va_P g.1 vwCl w t.heap; rw [ht]; exact hP⟩, hS.F ht⟩) hS.2.2 hdg hlk
theorem k_zret {r v : Int32} (hexec : p.tables.exec = Jvm.exec) (hb : c.code = cc) (hr : meth.sig.returnType = some .boolean) (hlk : meth.locks = false) (hv : v = r) (hn : narrow .boolean (.int v) = .int v) (hP : va_P g.1 vwCl w H) (hS : va_S A0 s.heap H locs) (hdg : decode cc pc = .ok (.ireturn, 1)) : W p l e R s m args below meth c H locs cells slots (MQ below (qI g r w A0) args s cells slots A0) (F0 m pc ls [.int v]) :=
  W.zret (v := v) hexec hb hr hn (fun t ht hW => ⟨⟨v, (), rfl, hv, by show va_P g.1 vwCl w t.heap; rw [ht]; exact hP⟩, hS.F ht⟩) hS.2.2 hdg hlk
theorem k_vret (hexec : p.tables.exec = Jvm.exec) (hb : c.code = cc) (hr : meth.sig.returnType = none) (hlk : meth.locks = false) (hP : va_P g.1 vwCl w H) (hS : va_S A0 s.heap H locs) (hdg : decode cc pc = .ok (.return_, 1)) : W p l e R s m args below meth c H locs cells slots (MQ below (qV g w A0) args s cells slots A0) (F0 m pc ls []) :=
  W.vret hexec hb hr (fun t ht hW => ⟨⟨(), rfl, trivial, by show va_P g.1 vwCl w t.heap; rw [ht]; exact hP⟩, hS.F ht⟩) hS.2.2 hdg hlk
theorem k_aret {r : Nat} {C : String} (hexec : p.tables.exec = Jvm.exec) (hb : c.code = cc) (hr : meth.sig.returnType = some (.object C)) (hlk : meth.locks = false) (hP : va_P g.1 vwCl w H) (hS : va_S A0 s.heap H locs) (hdg : decode cc pc = .ok (.areturn, 1)) : W p l e R s m args below meth c H locs cells slots (MQ below (qR g r w A0) args s cells slots A0) (F0 m pc ls [.ref r]) :=
  W.aret (v := .ref r) hexec hb hr (Or.inl ⟨C, rfl⟩) (Or.inr ⟨r, rfl⟩) (fun t ht hW => ⟨⟨(), r, rfl, trivial, rfl, by show va_P g.1 vwCl w t.heap; rw [ht]; exact hP⟩, hS.F ht⟩) hS.2.2 hdg hlk
/-- arithmetic and branches over naturals -/
theorem k_iadd {x y : Nat} (hexec : p.tables.exec = Jvm.exec) (hb : c.code = cc) (hdg : decode cc pc = .ok (.iadd, 1)) (kk : W p l e R s m args below meth c H locs cells slots Q (F0 m (pc + 1) ls (.int (nI (x + y)) :: rest))) : W p l e R s m args below meth c H locs cells slots Q (F0 m pc ls (.int (nI y) :: .int (nI x) :: rest)) :=
  lv_iadd hexec hb hdg (by rw [nI_add]; exact kk)
theorem k_isub {x y : Nat} (hexec : p.tables.exec = Jvm.exec) (hb : c.code = cc) (h : y ≤ x) (hdg : decode cc pc = .ok (.isub, 1)) (kk : W p l e R s m args below meth c H locs cells slots Q (F0 m (pc + 1) ls (.int (nI (x - y)) :: rest))) : W p l e R s m args below meth c H locs cells slots Q (F0 m pc ls (.int (nI y) :: .int (nI x) :: rest)) :=
  lv_isub hexec hb hdg (by rw [pk_sub h]; exact kk)
theorem k_imul {x y : Nat} (hexec : p.tables.exec = Jvm.exec) (hb : c.code = cc) (hdg : decode cc pc = .ok (.imul, 1)) (kk : W p l e R s m args below meth c H locs cells slots Q (F0 m (pc + 1) ls (.int (nI (x * y)) :: rest))) : W p l e R s m args below meth c H locs cells slots Q (F0 m pc ls (.int (nI y) :: .int (nI x) :: rest)) :=
  lv_imul hexec hb hdg (by rw [pk_mul]; exact kk)
theorem k_ic {x : Nat} {n : Int} (hexec : p.tables.exec = Jvm.exec) (hb : c.code = cc) (hdg : decode cc pc = .ok (.iconst n, 1)) (hv : Int32.ofInt n = nI x) (kk : W p l e R s m args below meth c H locs cells slots Q (F0 m (pc + 1) ls (.int (nI x) :: rest))) : W p l e R s m args below meth c H locs cells slots Q (F0 m pc ls rest) := lv_iconst hexec hb hdg hv kk
theorem k_bi {x : Nat} {n : Int} (hexec : p.tables.exec = Jvm.exec) (hb : c.code = cc) (hdg : decode cc pc = .ok (.bipush n, 2)) (hv : (Int8.ofInt n).toInt32 = nI x) (kk : W p l e R s m args below meth c H locs cells slots Q (F0 m (pc + 2) ls (.int (nI x) :: rest))) : W p l e R s m args below meth c H locs cells slots Q (F0 m pc ls rest) := lv_bipush hexec hb hdg hv kk
end KC
section KB
variable {p : Program} {l : Launch} {e : Env} {R : Room} {s : State} {m : MethodId} {args : Array Value} {below : List Frame} {meth : Method} {c : Code} {H : Heap} {locs : List Loc} {cells slots : Nat} {Q : State → Prop}
variable {cc : ByteArray} {pc : Nat} {rest : List Value} {ls : Array Slot}
theorem k_icmp_eq {x y : Nat} {off : Int} {tgt : Nat} (hexec : p.tables.exec = Jvm.exec) (hb : c.code = cc) (hdg : decode cc pc = .ok (.if_icmp .eq off, 3)) (ht : (pc : Int) + off = (tgt : Int)) (hx : x < 2147483648) (hy : y < 2147483648) (kt : x = y → W p l e R s m args below meth c H locs cells slots Q (F0 m tgt ls rest)) (kf : x ≠ y → W p l e R s m args below meth c H locs cells slots Q (F0 m (pc + 3) ls rest)) : W p l e R s m args below meth c H locs cells slots Q (F0 m pc ls (.int (nI y) :: .int (nI x) :: rest)) :=
  lv_icmp_eq hexec hb hdg ht (fun h => kt ((nI_eq hx hy).mp h)) (fun h => kf (fun q => h ((nI_eq hx hy).mpr q)))
theorem k_icmp_ne {x y : Nat} {off : Int} {tgt : Nat} (hexec : p.tables.exec = Jvm.exec) (hb : c.code = cc) (hdg : decode cc pc = .ok (.if_icmp .ne off, 3)) (ht : (pc : Int) + off = (tgt : Int)) (hx : x < 2147483648) (hy : y < 2147483648) (kt : x ≠ y → W p l e R s m args below meth c H locs cells slots Q (F0 m tgt ls rest)) (kf : x = y → W p l e R s m args below meth c H locs cells slots Q (F0 m (pc + 3) ls rest)) : W p l e R s m args below meth c H locs cells slots Q (F0 m pc ls (.int (nI y) :: .int (nI x) :: rest)) :=
  lv_icmp_ne hexec hb hdg ht (fun h => kt (fun q => h ((nI_eq hx hy).mpr q))) (fun h => kf ((nI_eq hx hy).mp h))
theorem k_icmp_lt {x y : Nat} {off : Int} {tgt : Nat} (hexec : p.tables.exec = Jvm.exec) (hb : c.code = cc) (hdg : decode cc pc = .ok (.if_icmp .lt off, 3)) (ht : (pc : Int) + off = (tgt : Int)) (hx : x < 2147483648) (hy : y < 2147483648) (kt : x < y → W p l e R s m args below meth c H locs cells slots Q (F0 m tgt ls rest)) (kf : y ≤ x → W p l e R s m args below meth c H locs cells slots Q (F0 m (pc + 3) ls rest)) : W p l e R s m args below meth c H locs cells slots Q (F0 m pc ls (.int (nI y) :: .int (nI x) :: rest)) :=
  lv_icmp_lt hexec hb hdg ht (fun h => kt ((nI_ltI hx hy).mp h)) (fun h => kf (Nat.not_lt.mp fun q => h ((nI_ltI hx hy).mpr q)))
theorem k_icmp_ge {x y : Nat} {off : Int} {tgt : Nat} (hexec : p.tables.exec = Jvm.exec) (hb : c.code = cc) (hdg : decode cc pc = .ok (.if_icmp .ge off, 3)) (ht : (pc : Int) + off = (tgt : Int)) (hx : x < 2147483648) (hy : y < 2147483648) (kt : y ≤ x → W p l e R s m args below meth c H locs cells slots Q (F0 m tgt ls rest)) (kf : x < y → W p l e R s m args below meth c H locs cells slots Q (F0 m (pc + 3) ls rest)) : W p l e R s m args below meth c H locs cells slots Q (F0 m pc ls (.int (nI y) :: .int (nI x) :: rest)) :=
  lv_icmp_ge hexec hb hdg ht (fun h => kt ((nI_leI hy hx).mp h)) (fun h => kf (Nat.not_le.mp fun q => h ((nI_leI hy hx).mpr q)))
theorem k_icmp_gt {x y : Nat} {off : Int} {tgt : Nat} (hexec : p.tables.exec = Jvm.exec) (hb : c.code = cc) (hdg : decode cc pc = .ok (.if_icmp .gt off, 3)) (ht : (pc : Int) + off = (tgt : Int)) (hx : x < 2147483648) (hy : y < 2147483648) (kt : y < x → W p l e R s m args below meth c H locs cells slots Q (F0 m tgt ls rest)) (kf : x ≤ y → W p l e R s m args below meth c H locs cells slots Q (F0 m (pc + 3) ls rest)) : W p l e R s m args below meth c H locs cells slots Q (F0 m pc ls (.int (nI y) :: .int (nI x) :: rest)) :=
  lv_icmp_gt hexec hb hdg ht (fun h => kt ((nI_ltI hy hx).mp h)) (fun h => kf (Nat.not_lt.mp fun q => h ((nI_ltI hy hx).mpr q)))
theorem k_icmp_le {x y : Nat} {off : Int} {tgt : Nat} (hexec : p.tables.exec = Jvm.exec) (hb : c.code = cc) (hdg : decode cc pc = .ok (.if_icmp .le off, 3)) (ht : (pc : Int) + off = (tgt : Int)) (hx : x < 2147483648) (hy : y < 2147483648) (kt : x ≤ y → W p l e R s m args below meth c H locs cells slots Q (F0 m tgt ls rest)) (kf : y < x → W p l e R s m args below meth c H locs cells slots Q (F0 m (pc + 3) ls rest)) : W p l e R s m args below meth c H locs cells slots Q (F0 m pc ls (.int (nI y) :: .int (nI x) :: rest)) :=
  lv_icmp_le hexec hb hdg ht (fun h => kt ((nI_leI hx hy).mp h)) (fun h => kf (Nat.not_le.mp fun q => h ((nI_leI hx hy).mpr q)))
theorem k_if_eq {x : Nat} {off : Int} {tgt : Nat} (hexec : p.tables.exec = Jvm.exec) (hb : c.code = cc) (hdg : decode cc pc = .ok (.ifCond .eq off, 3)) (ht : (pc : Int) + off = (tgt : Int)) (hx : x < 2147483648) (kt : x = 0 → W p l e R s m args below meth c H locs cells slots Q (F0 m tgt ls rest)) (kf : x ≠ 0 → W p l e R s m args below meth c H locs cells slots Q (F0 m (pc + 3) ls rest)) : W p l e R s m args below meth c H locs cells slots Q (F0 m pc ls (.int (nI x) :: rest)) :=
  lv_if_eq hexec hb hdg ht (fun h => kt ((nI_eq hx (show (0 : Nat) < 2147483648 by decide)).mp (h.trans nI_0.symm))) (fun h => kf (fun q => h (by rw [q]; exact nI_0)))
theorem k_if_ne {x : Nat} {off : Int} {tgt : Nat} (hexec : p.tables.exec = Jvm.exec) (hb : c.code = cc) (hdg : decode cc pc = .ok (.ifCond .ne off, 3)) (ht : (pc : Int) + off = (tgt : Int)) (hx : x < 2147483648) (kt : x ≠ 0 → W p l e R s m args below meth c H locs cells slots Q (F0 m tgt ls rest)) (kf : x = 0 → W p l e R s m args below meth c H locs cells slots Q (F0 m (pc + 3) ls rest)) : W p l e R s m args below meth c H locs cells slots Q (F0 m pc ls (.int (nI x) :: rest)) :=
  lv_if_ne hexec hb hdg ht (fun h => kt (fun q => h (by rw [q]; exact nI_0))) (fun h => kf ((nI_eq hx (show (0 : Nat) < 2147483648 by decide)).mp (h.trans nI_0.symm)))
theorem k_if_gt {x : Nat} {off : Int} {tgt : Nat} (hexec : p.tables.exec = Jvm.exec) (hb : c.code = cc) (hdg : decode cc pc = .ok (.ifCond .gt off, 3)) (ht : (pc : Int) + off = (tgt : Int)) (hx : x < 2147483648) (kt : 0 < x → W p l e R s m args below meth c H locs cells slots Q (F0 m tgt ls rest)) (kf : x = 0 → W p l e R s m args below meth c H locs cells slots Q (F0 m (pc + 3) ls rest)) : W p l e R s m args below meth c H locs cells slots Q (F0 m pc ls (.int (nI x) :: rest)) :=
  lv_if_gt hexec hb hdg ht (fun h => kt ((nI_ltI (show (0 : Nat) < 2147483648 by decide) hx).mp (by rw [nI_0]; exact h))) (fun h => kf (Nat.le_zero.mp (Nat.not_lt.mp fun q => h (by rw [← nI_0]; exact (nI_ltI (show (0 : Nat) < 2147483648 by decide) hx).mpr q))))
theorem k_if_le {x : Nat} {off : Int} {tgt : Nat} (hexec : p.tables.exec = Jvm.exec) (hb : c.code = cc) (hdg : decode cc pc = .ok (.ifCond .le off, 3)) (ht : (pc : Int) + off = (tgt : Int)) (hx : x < 2147483648) (kt : x = 0 → W p l e R s m args below meth c H locs cells slots Q (F0 m tgt ls rest)) (kf : 0 < x → W p l e R s m args below meth c H locs cells slots Q (F0 m (pc + 3) ls rest)) : W p l e R s m args below meth c H locs cells slots Q (F0 m pc ls (.int (nI x) :: rest)) :=
  lv_if_le hexec hb hdg ht (fun h => kt (Nat.le_zero.mp ((nI_leI hx (show (0 : Nat) < 2147483648 by decide)).mp (by rw [nI_0]; exact h)))) (fun h => kf (Nat.not_le.mp fun q => h (by rw [← nI_0]; exact (nI_leI hx (show (0 : Nat) < 2147483648 by decide)).mpr q)))
theorem k_irem {x y : Nat} (hexec : p.tables.exec = Jvm.exec) (hb : c.code = cc) (hx : x < 2147483648) (hy0 : 0 < y) (hy : y < 2147483648) (hdg : decode cc pc = .ok (.irem, 1)) (kk : W p l e R s m args below meth c H locs cells slots Q (F0 m (pc + 1) ls (.int (nI (x % y)) :: rest))) : W p l e R s m args below meth c H locs cells slots Q (F0 m pc ls (.int (nI y) :: .int (nI x) :: rest)) :=
  lv_irem hexec hb hdg (nI_ne0 hy0 hy) (by rw [pk_rem hx hy0 hy]; exact kk)
/-- an int gets a natural's name -/
theorem k_as {v : Int32} {x : Nat} (h : v = nI x) (kk : W p l e R s m args below meth c H locs cells slots Q (F0 m pc ls (.int (nI x) :: rest))) : W p l e R s m args below meth c H locs cells slots Q (F0 m pc ls (.int v :: rest)) := by rw [h]; exact kk
theorem k_has {ls : Array Slot} {nL : Nat} {l1 l2 : List (Nat × Value)} (h : lv_has ls nL l1) (e : l1 = l2) : lv_has ls nL l2 := e ▸ h
end KB
end
section
/-! WHAT THE METHODS DO TO THE STATE -/
def qput (s : CS) (q v : Nat) : CS := if s 10 q 0 < 40 then w3 (w3 s 11 q ((s 9 q 0 + s 10 q 0) % 40) v) 10 q 0 (s 10 q 0 + 1) else s
def qtake (s : CS) (q : Nat) : CS := w3 (w3 s 9 q 0 ((s 9 q 0 + 1) % 40)) 10 q 0 (s 10 q 0 - 1)
def lput (s : CS) (i w v : Nat) : CS := if s 8 i 0 = 0 then s else qput s (2 * i + w) v
def lclose (s : CS) (i : Nat) : CS := w3 (w3 (w3 s 8 i 0 0) 10 (2 * i + 0) 0 0) 10 (2 * i + 1) 0 0
def ackAt (s : CS) (p v : Nat) : CS := if 0 < p then lput (if p + 1 = s 1 0 0 then w3 (w3 s 6 (s 0 0 p) 0 v) 4 0 0 v else w3 s 6 (s 0 0 p) 0 v) (s 0 0 (p - 1)) 1 v else (if p + 1 = s 1 0 0 then w3 (w3 s 6 (s 0 0 p) 0 v) 4 0 0 v else w3 s 6 (s 0 0 p) 0 v)
def applyAt (s : CS) (p v : Nat) : CS := if p + 1 = s 1 0 0 then ackAt (w3 (w3 s 5 (s 0 0 p) 0 v) 12 (s 0 0 p) (s 2 0 v) (s 3 0 v)) p v else lput (w3 (w3 s 5 (s 0 0 p) 0 v) 12 (s 0 0 p) (s 2 0 v) (s 3 0 v)) (s 0 0 p) 0 v
/-- the shape: what every state of the object keeps -/
def Sh (n : Nat) (s : CS) : Prop := (1 ≤ s 1 0 0 ∧ s 1 0 0 ≤ n) ∧ (∀ k, k < n → s 0 0 k < n) ∧ (∀ i, i < n → s 5 i 0 ≤ 40 ∧ s 6 i 0 ≤ 40 ∧ s 7 i 0 ≤ 1 ∧ s 8 i 0 ≤ 1) ∧ (∀ q, q < 2 * n → s 9 q 0 < 40 ∧ s 10 q 0 ≤ 40) ∧ (∀ u, u ≤ 40 → s 2 0 u < 8) ∧ s 4 0 0 ≤ 40 ∧ (∀ q k, q < 2 * n → k < 40 → s 11 q k ≤ 40)
theorem Sh.len {n : Nat} {s : CS} (h : Sh n s) : 1 ≤ s 1 0 0 ∧ s 1 0 0 ≤ n := h.1
theorem Sh.ch {n : Nat} {s : CS} (h : Sh n s) (k : Nat) (hk : k < n) : s 0 0 k < n := h.2.1 k hk
theorem Sh.nd {n : Nat} {s : CS} (h : Sh n s) (i : Nat) (hi : i < n) : s 5 i 0 ≤ 40 ∧ s 6 i 0 ≤ 40 ∧ s 7 i 0 ≤ 1 ∧ s 8 i 0 ≤ 1 := h.2.2.1 i hi
theorem Sh.qu {n : Nat} {s : CS} (h : Sh n s) (q : Nat) (hq : q < 2 * n) : s 9 q 0 < 40 ∧ s 10 q 0 ≤ 40 := h.2.2.2.1 q hq
theorem Sh.key {n : Nat} {s : CS} (h : Sh n s) (u : Nat) (hu : u ≤ 40) : s 2 0 u < 8 := h.2.2.2.2.1 u hu
theorem Sh.rp {n : Nat} {s : CS} (h : Sh n s) : s 4 0 0 ≤ 40 := h.2.2.2.2.2.1
theorem Sh.nu {n : Nat} {s : CS} (h : Sh n s) (q k : Nat) (hq : q < 2 * n) (hk : k < 40) : s 11 q k ≤ 40 := h.2.2.2.2.2.2 q k hq hk
theorem Sh.m0 {n : Nat} {s : CS} (h : Sh n s) {i k v : Nat} (hv : v < n) : Sh n (w3 s 0 i k v) := by
  obtain ⟨h1, h2, h3, h4, h5, h6, h7⟩ := h
  refine ⟨?_, fun k' hk => ?_, fun i' hi => ?_, fun q hq => ?_, fun u hu => ?_, ?_, fun q k' hq hk => ?_⟩
  · simp only [w3]; refine ⟨?_, ?_⟩ <;> split <;> omega
  · have := h2 k' hk; simp only [w3]; split <;> omega
  · have := h3 i' hi; simp only [w3]; refine ⟨?_, ?_, ?_, ?_⟩ <;> split <;> omega
  · have := h4 q hq; simp only [w3]; refine ⟨?_, ?_⟩ <;> split <;> omega
  · have := h5 u hu; simp only [w3]; split <;> omega
  · simp only [w3]; split <;> omega
  · have := h7 q k' hq hk; simp only [w3]; split <;> omega
theorem Sh.m1 {n : Nat} {s : CS} (h : Sh n s) {i k v : Nat} (hv : 1 ≤ v ∧ v ≤ n) : Sh n (w3 s 1 i k v) := by
  obtain ⟨h1, h2, h3, h4, h5, h6, h7⟩ := h
  refine ⟨?_, fun k' hk => ?_, fun i' hi => ?_, fun q hq => ?_, fun u hu => ?_, ?_, fun q k' hq hk => ?_⟩
  · simp only [w3]; refine ⟨?_, ?_⟩ <;> split <;> omega
  · have := h2 k' hk; simp only [w3]; split <;> omega
  · have := h3 i' hi; simp only [w3]; refine ⟨?_, ?_, ?_, ?_⟩ <;> split <;> omega
  · have := h4 q hq; simp only [w3]; refine ⟨?_, ?_⟩ <;> split <;> omega
  · have := h5 u hu; simp only [w3]; split <;> omega
  · simp only [w3]; split <;> omega
  · have := h7 q k' hq hk; simp only [w3]; split <;> omega
theorem Sh.m2 {n : Nat} {s : CS} (h : Sh n s) {i k v : Nat} (hv : v < 8) : Sh n (w3 s 2 i k v) := by
  obtain ⟨h1, h2, h3, h4, h5, h6, h7⟩ := h
  refine ⟨?_, fun k' hk => ?_, fun i' hi => ?_, fun q hq => ?_, fun u hu => ?_, ?_, fun q k' hq hk => ?_⟩
  · simp only [w3]; refine ⟨?_, ?_⟩ <;> split <;> omega
  · have := h2 k' hk; simp only [w3]; split <;> omega
  · have := h3 i' hi; simp only [w3]; refine ⟨?_, ?_, ?_, ?_⟩ <;> split <;> omega
  · have := h4 q hq; simp only [w3]; refine ⟨?_, ?_⟩ <;> split <;> omega
  · have := h5 u hu; simp only [w3]; split <;> omega
  · simp only [w3]; split <;> omega
  · have := h7 q k' hq hk; simp only [w3]; split <;> omega
theorem Sh.m3 {n : Nat} {s : CS} (h : Sh n s) {i k v : Nat}  : Sh n (w3 s 3 i k v) := by
  obtain ⟨h1, h2, h3, h4, h5, h6, h7⟩ := h
  refine ⟨?_, fun k' hk => ?_, fun i' hi => ?_, fun q hq => ?_, fun u hu => ?_, ?_, fun q k' hq hk => ?_⟩
  · simp only [w3]; refine ⟨?_, ?_⟩ <;> split <;> omega
  · have := h2 k' hk; simp only [w3]; split <;> omega
  · have := h3 i' hi; simp only [w3]; refine ⟨?_, ?_, ?_, ?_⟩ <;> split <;> omega
  · have := h4 q hq; simp only [w3]; refine ⟨?_, ?_⟩ <;> split <;> omega
  · have := h5 u hu; simp only [w3]; split <;> omega
  · simp only [w3]; split <;> omega
  · have := h7 q k' hq hk; simp only [w3]; split <;> omega
theorem Sh.m4 {n : Nat} {s : CS} (h : Sh n s) {i k v : Nat} (hv : v ≤ 40) : Sh n (w3 s 4 i k v) := by
  obtain ⟨h1, h2, h3, h4, h5, h6, h7⟩ := h
  refine ⟨?_, fun k' hk => ?_, fun i' hi => ?_, fun q hq => ?_, fun u hu => ?_, ?_, fun q k' hq hk => ?_⟩
  · simp only [w3]; refine ⟨?_, ?_⟩ <;> split <;> omega
  · have := h2 k' hk; simp only [w3]; split <;> omega
  · have := h3 i' hi; simp only [w3]; refine ⟨?_, ?_, ?_, ?_⟩ <;> split <;> omega
  · have := h4 q hq; simp only [w3]; refine ⟨?_, ?_⟩ <;> split <;> omega
  · have := h5 u hu; simp only [w3]; split <;> omega
  · simp only [w3]; split <;> omega
  · have := h7 q k' hq hk; simp only [w3]; split <;> omega
theorem Sh.m5 {n : Nat} {s : CS} (h : Sh n s) {i k v : Nat} (hv : v ≤ 40) : Sh n (w3 s 5 i k v) := by
  obtain ⟨h1, h2, h3, h4, h5, h6, h7⟩ := h
  refine ⟨?_, fun k' hk => ?_, fun i' hi => ?_, fun q hq => ?_, fun u hu => ?_, ?_, fun q k' hq hk => ?_⟩
  · simp only [w3]; refine ⟨?_, ?_⟩ <;> split <;> omega
  · have := h2 k' hk; simp only [w3]; split <;> omega
  · have := h3 i' hi; simp only [w3]; refine ⟨?_, ?_, ?_, ?_⟩ <;> split <;> omega
  · have := h4 q hq; simp only [w3]; refine ⟨?_, ?_⟩ <;> split <;> omega
  · have := h5 u hu; simp only [w3]; split <;> omega
  · simp only [w3]; split <;> omega
  · have := h7 q k' hq hk; simp only [w3]; split <;> omega
theorem Sh.m6 {n : Nat} {s : CS} (h : Sh n s) {i k v : Nat} (hv : v ≤ 40) : Sh n (w3 s 6 i k v) := by
  obtain ⟨h1, h2, h3, h4, h5, h6, h7⟩ := h
  refine ⟨?_, fun k' hk => ?_, fun i' hi => ?_, fun q hq => ?_, fun u hu => ?_, ?_, fun q k' hq hk => ?_⟩
  · simp only [w3]; refine ⟨?_, ?_⟩ <;> split <;> omega
  · have := h2 k' hk; simp only [w3]; split <;> omega
  · have := h3 i' hi; simp only [w3]; refine ⟨?_, ?_, ?_, ?_⟩ <;> split <;> omega
  · have := h4 q hq; simp only [w3]; refine ⟨?_, ?_⟩ <;> split <;> omega
  · have := h5 u hu; simp only [w3]; split <;> omega
  · simp only [w3]; split <;> omega
  · have := h7 q k' hq hk; simp only [w3]; split <;> omega
theorem Sh.m7 {n : Nat} {s : CS} (h : Sh n s) {i k v : Nat} (hv : v ≤ 1) : Sh n (w3 s 7 i k v) := by
  obtain ⟨h1, h2, h3, h4, h5, h6, h7⟩ := h
  refine ⟨?_, fun k' hk => ?_, fun i' hi => ?_, fun q hq => ?_, fun u hu => ?_, ?_, fun q k' hq hk => ?_⟩
  · simp only [w3]; refine ⟨?_, ?_⟩ <;> split <;> omega
  · have := h2 k' hk; simp only [w3]; split <;> omega
  · have := h3 i' hi; simp only [w3]; refine ⟨?_, ?_, ?_, ?_⟩ <;> split <;> omega
  · have := h4 q hq; simp only [w3]; refine ⟨?_, ?_⟩ <;> split <;> omega
  · have := h5 u hu; simp only [w3]; split <;> omega
  · simp only [w3]; split <;> omega
  · have := h7 q k' hq hk; simp only [w3]; split <;> omega
theorem Sh.m8 {n : Nat} {s : CS} (h : Sh n s) {i k v : Nat} (hv : v ≤ 1) : Sh n (w3 s 8 i k v) := by
  obtain ⟨h1, h2, h3, h4, h5, h6, h7⟩ := h
  refine ⟨?_, fun k' hk => ?_, fun i' hi => ?_, fun q hq => ?_, fun u hu => ?_, ?_, fun q k' hq hk => ?_⟩
  · simp only [w3]; refine ⟨?_, ?_⟩ <;> split <;> omega
  · have := h2 k' hk; simp only [w3]; split <;> omega
  · have := h3 i' hi; simp only [w3]; refine ⟨?_, ?_, ?_, ?_⟩ <;> split <;> omega
  · have := h4 q hq; simp only [w3]; refine ⟨?_, ?_⟩ <;> split <;> omega
  · have := h5 u hu; simp only [w3]; split <;> omega
  · simp only [w3]; split <;> omega
  · have := h7 q k' hq hk; simp only [w3]; split <;> omega
theorem Sh.m9 {n : Nat} {s : CS} (h : Sh n s) {i k v : Nat} (hv : v < 40) : Sh n (w3 s 9 i k v) := by
  obtain ⟨h1, h2, h3, h4, h5, h6, h7⟩ := h
  refine ⟨?_, fun k' hk => ?_, fun i' hi => ?_, fun q hq => ?_, fun u hu => ?_, ?_, fun q k' hq hk => ?_⟩
  · simp only [w3]; refine ⟨?_, ?_⟩ <;> split <;> omega
  · have := h2 k' hk; simp only [w3]; split <;> omega
  · have := h3 i' hi; simp only [w3]; refine ⟨?_, ?_, ?_, ?_⟩ <;> split <;> omega
  · have := h4 q hq; simp only [w3]; refine ⟨?_, ?_⟩ <;> split <;> omega
  · have := h5 u hu; simp only [w3]; split <;> omega
  · simp only [w3]; split <;> omega
  · have := h7 q k' hq hk; simp only [w3]; split <;> omega
theorem Sh.m10 {n : Nat} {s : CS} (h : Sh n s) {i k v : Nat} (hv : v ≤ 40) : Sh n (w3 s 10 i k v) := by
  obtain ⟨h1, h2, h3, h4, h5, h6, h7⟩ := h
  refine ⟨?_, fun k' hk => ?_, fun i' hi => ?_, fun q hq => ?_, fun u hu => ?_, ?_, fun q k' hq hk => ?_⟩
  · simp only [w3]; refine ⟨?_, ?_⟩ <;> split <;> omega
  · have := h2 k' hk; simp only [w3]; split <;> omega
  · have := h3 i' hi; simp only [w3]; refine ⟨?_, ?_, ?_, ?_⟩ <;> split <;> omega
  · have := h4 q hq; simp only [w3]; refine ⟨?_, ?_⟩ <;> split <;> omega
  · have := h5 u hu; simp only [w3]; split <;> omega
  · simp only [w3]; split <;> omega
  · have := h7 q k' hq hk; simp only [w3]; split <;> omega
theorem Sh.m11 {n : Nat} {s : CS} (h : Sh n s) {i k v : Nat} (hv : v ≤ 40) : Sh n (w3 s 11 i k v) := by
  obtain ⟨h1, h2, h3, h4, h5, h6, h7⟩ := h
  refine ⟨?_, fun k' hk => ?_, fun i' hi => ?_, fun q hq => ?_, fun u hu => ?_, ?_, fun q k' hq hk => ?_⟩
  · simp only [w3]; refine ⟨?_, ?_⟩ <;> split <;> omega
  · have := h2 k' hk; simp only [w3]; split <;> omega
  · have := h3 i' hi; simp only [w3]; refine ⟨?_, ?_, ?_, ?_⟩ <;> split <;> omega
  · have := h4 q hq; simp only [w3]; refine ⟨?_, ?_⟩ <;> split <;> omega
  · have := h5 u hu; simp only [w3]; split <;> omega
  · simp only [w3]; split <;> omega
  · have := h7 q k' hq hk; simp only [w3]; split <;> omega
theorem Sh.m12 {n : Nat} {s : CS} (h : Sh n s) {i k v : Nat}  : Sh n (w3 s 12 i k v) := by
  obtain ⟨h1, h2, h3, h4, h5, h6, h7⟩ := h
  refine ⟨?_, fun k' hk => ?_, fun i' hi => ?_, fun q hq => ?_, fun u hu => ?_, ?_, fun q k' hq hk => ?_⟩
  · simp only [w3]; refine ⟨?_, ?_⟩ <;> split <;> omega
  · have := h2 k' hk; simp only [w3]; split <;> omega
  · have := h3 i' hi; simp only [w3]; refine ⟨?_, ?_, ?_, ?_⟩ <;> split <;> omega
  · have := h4 q hq; simp only [w3]; refine ⟨?_, ?_⟩ <;> split <;> omega
  · have := h5 u hu; simp only [w3]; split <;> omega
  · simp only [w3]; split <;> omega
  · have := h7 q k' hq hk; simp only [w3]; split <;> omega
theorem Sh.qp {n : Nat} {s : CS} (h : Sh n s) {q v : Nat} (hv : v ≤ 40) : Sh n (qput s q v) := by
  unfold qput
  split
  · exact (h.m11 hv).m10 (by omega)
  · exact h
theorem Sh.qt {n : Nat} {s : CS} (h : Sh n s) {q : Nat} (hq : s 10 q 0 ≤ 40) : Sh n (qtake s q) := (h.m9 (Nat.mod_lt _ (by decide))).m10 (by omega)
theorem Sh.lp {n : Nat} {s : CS} (h : Sh n s) {i w v : Nat} (hv : v ≤ 40) : Sh n (lput s i w v) := by
  unfold lput
  split
  · exact h
  · exact h.qp hv
theorem Sh.lc {n : Nat} {s : CS} (h : Sh n s) {i : Nat} : Sh n (lclose s i) := ((h.m8 (by omega)).m10 (by omega)).m10 (by omega)
theorem Sh.aa {n : Nat} {s : CS} (h : Sh n s) {p v : Nat} (hv : v ≤ 40) : Sh n (ackAt s p v) := by
  unfold ackAt
  have h1 : Sh n (if p + 1 = s 1 0 0 then w3 (w3 s 6 (s 0 0 p) 0 v) 4 0 0 v else w3 s 6 (s 0 0 p) 0 v) := by
    split
    · exact (h.m6 hv).m4 hv
    · exact h.m6 hv
  split
  · exact h1.lp hv
  · exact h1
theorem Sh.ap {n : Nat} {s : CS} (h : Sh n s) {p v : Nat} (hv : v ≤ 40) : Sh n (applyAt s p v) := by
  unfold applyAt
  split
  · exact ((h.m5 hv).m12).aa hv
  · exact ((h.m5 hv).m12).lp hv
set_option maxHeartbeats 4000000 in
set_option maxRecDepth 100000 in
/-- Queue.put -/
theorem c_X2_put (l : Launch) {g : GG} {a : Nat → Nat} {n : Nat} {A : Nat → Prop} (hA : Ap A a (5 + 7 * n)) (hn6 : n ≤ 6) {s : CS} {i w v : Nat} (hi : i < n) (hw : w < 2) (h9 : s 9 (2 * i + w) 0 < 40) (h10 : s 10 (2 * i + w) 0 ≤ 40) : Met l yX2_put wsX2_put ({ frames := 0, cells := 0, slots := 0, locals := 0 }) (pC g [.ref (a (7 * i + 8 + 2 * w)), .int (nI v)] (wC g a n s)) (qV g (wC g a n (qput s (2 * i + w) v)) A) 0 0 A := by
  refine k_start (cc := cX2_put) (maxL := 2) (ret := none) (by decide) rfl (Nat.le_of_ble_eq_true rfl) ?_
  intro pr en s0 m args below meth cd hx hb hml hr hlk hts hown hin hC hP ls hl
  have hS : va_S A s0.heap s0.heap [] := va_S.rf
  have hfx : CallFix pr m cd cX2_put 2 s0 args wsX2_put RX2 := ⟨hx, hb, hml, hown, hts⟩
  have hu2 : ∀ w ∈ wsX20, w.before args s0 = true := fun w h => hts w ((by decide +kernel : ∀ w ∈ wsX20, w ∈ wsX2_put) w h)
  have hl : lv_has ls 2 [(0, .ref (a (7 * i + 8 + 2 * w))), (1, .int (nI v))] := hl
  refine lv_aload_n hx hb dX2_put_0 rfl (lv_at hl 0 rfl) ?_
  refine va_get (D := g.1) (C := RX2) (T := TX2) (N := 3) (ci := 2) hx hb hu2 (fun _ h => h) hown hC.1 hP _ (wC_q (i := i) (w := w) (by omega) hw) rfl 2 (by decide) (hts (.fieldLink RX2 19 "SplicedChain$Queue" "size" "I") (by decide +kernel)) (fun _ h9 => h9) rfl dX2_put_1 ?_
  refine k_bi (x := 40) hx hb dX2_put_4 (by decide) ?_
  refine k_icmp_ge (tgt := 37) hx hb dX2_put_6 (by decide) (by omega) (by omega) (fun c6 => ?_) (fun c6 => ?_)
  · skip
    exact k_vret hx hb hr hlk (P_eq (congrArg (wC g a n) (by simp [qput]; omega)) hP) hS dX2_put_37
  · skip
    refine lv_aload_n hx hb dX2_put_9 rfl (lv_at hl 0 rfl) ?_
    refine va_get (D := g.1) (C := RX2) (T := TX2) (N := 3) (ci := 2) hx hb hu2 (fun _ h => h) hown hC.1 hP _ (wC_q (i := i) (w := w) (by omega) hw) rfl 0 (by decide) (hts (.fieldLink RX2 9 "SplicedChain$Queue" "numbers" "[I") (by decide +kernel)) (fun _ h9 => h9) rfl dX2_put_10 ?_
    refine lv_aload_n hx hb dX2_put_13 rfl (lv_at hl 0 rfl) ?_
    refine va_get (D := g.1) (C := RX2) (T := TX2) (N := 3) (ci := 2) hx hb hu2 (fun _ h => h) hown hC.1 hP _ (wC_q (i := i) (w := w) (by omega) hw) rfl 1 (by decide) (hts (.fieldLink RX2 15 "SplicedChain$Queue" "first" "I") (by decide +kernel)) (fun _ h9 => h9) rfl dX2_put_14 ?_
    refine lv_aload_n hx hb dX2_put_17 rfl (lv_at hl 0 rfl) ?_
    refine va_get (D := g.1) (C := RX2) (T := TX2) (N := 3) (ci := 2) hx hb hu2 (fun _ h => h) hown hC.1 hP _ (wC_q (i := i) (w := w) (by omega) hw) rfl 2 (by decide) (hts (.fieldLink RX2 19 "SplicedChain$Queue" "size" "I") (by decide +kernel)) (fun _ h9 => h9) rfl dX2_put_18 ?_
    refine k_iadd (x := s 9 ((2 * i + w)) 0) (y := s 10 ((2 * i + w)) 0) hx hb dX2_put_21 ?_
    refine k_bi (x := 40) hx hb dX2_put_22 (by decide) ?_
    refine k_irem (x := (s 9 ((2 * i + w)) 0) + (s 10 ((2 * i + w)) 0)) (y := 40) hx hb (by omega) (by omega) (by omega) dX2_put_24 ?_
    refine lv_iload_n hx hb dX2_put_25 rfl (lv_at hl 1 rfl) ?_
    refine k_iast hx hb hC hP hA.D hS _ (wC_row (i := i) (w := w) (by omega) hw) (j := ((s 9 ((2 * i + w)) 0) + (s 10 ((2 * i + w)) 0)) % 40) (by omega) (by omega) dX2_put_26 (wp_row (i := i) (w := w) hw) (fun H locs hP hS => ?_)
    refine lv_aload_n hx hb dX2_put_27 rfl (lv_at hl 0 rfl) ?_
    refine lv_dup hx hb dX2_put_28 rfl ?_
    refine va_get (D := g.1) (C := RX2) (T := TX2) (N := 3) (ci := 2) hx hb hu2 (fun _ h => h) hown hC.1 hP _ (wC_q (i := i) (w := w) (by omega) hw) rfl 2 (by decide) (hts (.fieldLink RX2 19 "SplicedChain$Queue" "size" "I") (by decide +kernel)) (fun _ h9 => h9) rfl dX2_put_29 ?_
    refine k_as (x := s 10 ((2 * i + w)) 0) (by simp [w3]) ?_
    refine k_ic (x := 1) hx hb dX2_put_32 (by decide) ?_
    refine k_iadd (x := s 10 ((2 * i + w)) 0) (y := 1) hx hb dX2_put_33 ?_
    refine va_put (D := g.1) (v := .int (nI ((s 10 ((2 * i + w)) 0) + 1))) (ty := .int) (C := RX2) (T := TX2) (N := 3) (ci := 2) hx hb hu2 (fun _ h => h) tyX2 tyX2_ok nmX2 hown hC.1 hP hA.D hS _ (wC_q (i := i) (w := w) (by omega) hw) rfl 2 (by decide) (hts (.fieldLink RX2 19 "SplicedChain$Queue" "size" "I") (by decide +kernel)) (fun _ h9 => h9) rfl (by decide +kernel) rfl rfl (Nat.le_of_ble_eq_true rfl) dX2_put_34 (fun H locs hP _ hS => ?_)
    have hP : va_P g.1 vwCl (wC g a n (w3 (w3 s 11 ((2 * i + w)) (((s 9 ((2 * i + w)) 0) + (s 10 ((2 * i + w)) 0)) % 40) v) 10 ((2 * i + w)) 0 ((s 10 ((2 * i + w)) 0) + 1))) H := P_eq (wp_size (i := i) (w := w) hw) hP
    exact k_vret hx hb hr hlk (P_eq (congrArg (wC g a n) (by simp [qput]; omega)) hP) hS dX2_put_37
set_option maxHeartbeats 4000000 in
set_option maxRecDepth 100000 in
/-- Queue.take -/
theorem c_X2_take (l : Launch) {g : GG} {a : Nat → Nat} {n : Nat} {A : Nat → Prop} (hA : Ap A a (5 + 7 * n)) (hn6 : n ≤ 6) {s : CS} {i w : Nat} (hi : i < n) (hw : w < 2) (h9 : s 9 (2 * i + w) 0 < 40) (h10 : 0 < s 10 (2 * i + w) 0) : Met l yX2_take wsX2_take ({ frames := 0, cells := 0, slots := 0, locals := 0 }) (pC g [.ref (a (7 * i + 8 + 2 * w))] (wC g a n s)) (qI g (nI (s 11 (2 * i + w) (s 9 (2 * i + w) 0))) (wC g a n (qtake s (2 * i + w))) A) 0 0 A := by
  refine k_start (cc := cX2_take) (maxL := 2) (ret := (some .int)) (by decide) rfl (Nat.le_of_ble_eq_true rfl) ?_
  intro pr en s0 m args below meth cd hx hb hml hr hlk hts hown hin hC hP ls hl
  have hS : va_S A s0.heap s0.heap [] := va_S.rf
  have hfx : CallFix pr m cd cX2_take 2 s0 args wsX2_take RX2 := ⟨hx, hb, hml, hown, hts⟩
  have hu2 : ∀ w ∈ wsX20, w.before args s0 = true := fun w h => hts w ((by decide +kernel : ∀ w ∈ wsX20, w ∈ wsX2_take) w h)
  have hl : lv_has ls 2 [(0, .ref (a (7 * i + 8 + 2 * w)))] := hl
  refine lv_aload_n hx hb dX2_take_0 rfl (lv_at hl 0 rfl) ?_
  refine va_get (D := g.1) (C := RX2) (T := TX2) (N := 3) (ci := 2) hx hb hu2 (fun _ h => h) hown hC.1 hP _ (wC_q (i := i) (w := w) (by omega) hw) rfl 0 (by decide) (hts (.fieldLink RX2 9 "SplicedChain$Queue" "numbers" "[I") (by decide +kernel)) (fun _ h9 => h9) rfl dX2_take_1 ?_
  refine lv_aload_n hx hb dX2_take_4 rfl (lv_at hl 0 rfl) ?_
  refine va_get (D := g.1) (C := RX2) (T := TX2) (N := 3) (ci := 2) hx hb hu2 (fun _ h => h) hown hC.1 hP _ (wC_q (i := i) (w := w) (by omega) hw) rfl 1 (by decide) (hts (.fieldLink RX2 15 "SplicedChain$Queue" "first" "I") (by decide +kernel)) (fun _ h9 => h9) rfl dX2_take_5 ?_
  refine k_iald hx hb hC hP _ (wC_row (i := i) (w := w) (by omega) hw) (j := s 9 ((2 * i + w)) 0) (by omega) (by omega) dX2_take_8 ?_
  refine lv_istore_n (lv' := [(1, .int (nI (s 11 ((2 * i + w)) (s 9 ((2 * i + w)) 0)))), (0, .ref (a (7 * i + 8 + 2 * w)))]) hx hb dX2_take_9 rfl hl (by decide) rfl (fun ls hl => ?_)
  refine lv_aload_n hx hb dX2_take_10 rfl (lv_at hl 1 rfl) ?_
  refine lv_aload_n hx hb dX2_take_11 rfl (lv_at hl 1 rfl) ?_
  refine va_get (D := g.1) (C := RX2) (T := TX2) (N := 3) (ci := 2) hx hb hu2 (fun _ h => h) hown hC.1 hP _ (wC_q (i := i) (w := w) (by omega) hw) rfl 1 (by decide) (hts (.fieldLink RX2 15 "SplicedChain$Queue" "first" "I") (by decide +kernel)) (fun _ h9 => h9) rfl dX2_take_12 ?_
  refine k_ic (x := 1) hx hb dX2_take_15 (by decide) ?_
  refine k_iadd (x := s 9 ((2 * i + w)) 0) (y := 1) hx hb dX2_take_16 ?_
  refine k_bi (x := 40) hx hb dX2_take_17 (by decide) ?_
  refine k_irem (x := (s 9 ((2 * i + w)) 0) + 1) (y := 40) hx hb (by omega) (by omega) (by omega) dX2_take_19 ?_
  refine va_put (D := g.1) (v := .int (nI (((s 9 ((2 * i + w)) 0) + 1) % 40))) (ty := .int) (C := RX2) (T := TX2) (N := 3) (ci := 2) hx hb hu2 (fun _ h => h) tyX2 tyX2_ok nmX2 hown hC.1 hP hA.D hS _ (wC_q (i := i) (w := w) (by omega) hw) rfl 1 (by decide) (hts (.fieldLink RX2 15 "SplicedChain$Queue" "first" "I") (by decide +kernel)) (fun _ h9 => h9) rfl (by decide +kernel) rfl rfl (Nat.le_of_ble_eq_true rfl) dX2_take_20 (fun H locs hP _ hS => ?_)
  have hP : va_P g.1 vwCl (wC g a n (w3 s 9 ((2 * i + w)) 0 (((s 9 ((2 * i + w)) 0) + 1) % 40))) H := P_eq (wp_first (i := i) (w := w) hw) hP
  refine lv_aload_n hx hb dX2_take_23 rfl (lv_at hl 1 rfl) ?_
  refine lv_dup hx hb dX2_take_24 rfl ?_
  refine va_get (D := g.1) (C := RX2) (T := TX2) (N := 3) (ci := 2) hx hb hu2 (fun _ h => h) hown hC.1 hP _ (wC_q (i := i) (w := w) (by omega) hw) rfl 2 (by decide) (hts (.fieldLink RX2 19 "SplicedChain$Queue" "size" "I") (by decide +kernel)) (fun _ h9 => h9) rfl dX2_take_25 ?_
  refine k_as (x := s 10 ((2 * i + w)) 0) (by simp [w3]) ?_
  refine k_ic (x := 1) hx hb dX2_take_28 (by decide) ?_
  refine k_isub (x := s 10 ((2 * i + w)) 0) (y := 1) hx hb (by omega) dX2_take_29 ?_
  refine va_put (D := g.1) (v := .int (nI ((s 10 ((2 * i + w)) 0) - 1))) (ty := .int) (C := RX2) (T := TX2) (N := 3) (ci := 2) hx hb hu2 (fun _ h => h) tyX2 tyX2_ok nmX2 hown hC.1 hP hA.D hS _ (wC_q (i := i) (w := w) (by omega) hw) rfl 2 (by decide) (hts (.fieldLink RX2 19 "SplicedChain$Queue" "size" "I") (by decide +kernel)) (fun _ h9 => h9) rfl (by decide +kernel) rfl rfl (Nat.le_of_ble_eq_true rfl) dX2_take_30 (fun H locs hP _ hS => ?_)
  have hP : va_P g.1 vwCl (wC g a n (w3 (w3 s 9 ((2 * i + w)) 0 (((s 9 ((2 * i + w)) 0) + 1) % 40)) 10 ((2 * i + w)) 0 ((s 10 ((2 * i + w)) 0) - 1))) H := P_eq (wp_size (i := i) (w := w) hw) hP
  refine lv_iload_n hx hb dX2_take_33 rfl (lv_at hl 0 rfl) ?_
  exact k_iret hx hb hr hlk (by rfl) hP hS dX2_take_34
set_option maxHeartbeats 4000000 in
set_option maxRecDepth 100000 in
/-- Queue.clear -/
theorem c_X2_clear (l : Launch) {g : GG} {a : Nat → Nat} {n : Nat} {A : Nat → Prop} (hA : Ap A a (5 + 7 * n)) (hn6 : n ≤ 6) {s : CS} {i w : Nat} (hi : i < n) (hw : w < 2) : Met l yX2_clear wsX2_clear ({ frames := 0, cells := 0, slots := 0, locals := 0 }) (pC g [.ref (a (7 * i + 8 + 2 * w))] (wC g a n s)) (qV g (wC g a n (w3 s 10 (2 * i + w) 0 0)) A) 0 0 A := by
  refine k_start (cc := cX2_clear) (maxL := 1) (ret := none) (by decide) rfl (Nat.le_of_ble_eq_true rfl) ?_
  intro pr en s0 m args below meth cd hx hb hml hr hlk hts hown hin hC hP ls hl
  have hS : va_S A s0.heap s0.heap [] := va_S.rf
  have hfx : CallFix pr m cd cX2_clear 1 s0 args wsX2_clear RX2 := ⟨hx, hb, hml, hown, hts⟩
  have hu2 : ∀ w ∈ wsX20, w.before args s0 = true := fun w h => hts w ((by decide +kernel : ∀ w ∈ wsX20, w ∈ wsX2_clear) w h)
  have hl : lv_has ls 1 [(0, .ref (a (7 * i + 8 + 2 * w)))] := hl
  refine lv_aload_n hx hb dX2_clear_0 rfl (lv_at hl 0 rfl) ?_
  refine k_ic (x := 0) hx hb dX2_clear_1 (by decide) ?_
  refine va_put (D := g.1) (v := .int (nI 0)) (ty := .int) (C := RX2) (T := TX2) (N := 3) (ci := 2) hx hb hu2 (fun _ h => h) tyX2 tyX2_ok nmX2 hown hC.1 hP hA.D hS _ (wC_q (i := i) (w := w) (by omega) hw) rfl 2 (by decide) (hts (.fieldLink RX2 19 "SplicedChain$Queue" "size" "I") (by decide +kernel)) (fun _ h9 => h9) rfl (by decide +kernel) rfl rfl (Nat.le_of_ble_eq_true rfl) dX2_clear_2 (fun H locs hP _ hS => ?_)
  have hP : va_P g.1 vwCl (wC g a n (w3 s 10 ((2 * i + w)) 0 0)) H := P_eq (wp_size (i := i) (w := w) hw) hP
  exact k_vret hx hb hr hlk hP hS dX2_clear_5
set_option maxHeartbeats 4000000 in
set_option maxRecDepth 100000 in
/-- Link.putUpdate -/
theorem c_X0_putUpdate (l : Launch) {g : GG} {a : Nat → Nat} {n : Nat} {A : Nat → Prop} (hA : Ap A a (5 + 7 * n)) (hn6 : n ≤ 6) {s : CS} {i v : Nat} (hi : i < n) (hs : Sh n s) : Met l yX0_putUpdate wsX0_putUpdate ({ frames := 1, cells := 0, slots := 0, locals := 21 }) (pC g [.ref (a (7 * i + 7)), .int (nI v)] (wC g a n s)) (qV g (wC g a n (lput s i 0 v)) A) 0 0 A := by
  refine k_start (cc := cX0_putUpdate) (maxL := 2) (ret := none) (by decide) rfl (Nat.le_of_ble_eq_true rfl) ?_
  intro pr en s0 m args below meth cd hx hb hml hr hlk hts hown hin hC hP ls hl
  have hS : va_S A s0.heap s0.heap [] := va_S.rf
  have hfx : CallFix pr m cd cX0_putUpdate 2 s0 args wsX0_putUpdate RX0 := ⟨hx, hb, hml, hown, hts⟩
  have hu0 : ∀ w ∈ wsX00, w.before args s0 = true := fun w h => hts w ((by decide +kernel : ∀ w ∈ wsX00, w ∈ wsX0_putUpdate) w h)
  have hl : lv_has ls 2 [(0, .ref (a (7 * i + 7))), (1, .int (nI v))] := hl
  have f1 := hs.nd i hi
  have f2 := hs.qu (2 * i + 0) (by omega)
  refine lv_aload_n hx hb dX0_putUpdate_0 rfl (lv_at hl 0 rfl) ?_
  refine va_get (D := g.1) (C := RX0) (T := TX0) (N := 3) (ci := 0) hx hb hu0 (fun _ h => h) hown hC.1 hP _ (wC_link (i := i) hi) rfl 2 (by decide) (hts (.fieldLink RX0 19 "SplicedChain$Link" "open" "Z") (by decide +kernel)) (fun _ h9 => h9) rfl dX0_putUpdate_1 ?_
  refine k_if_eq (tgt := 15) hx hb dX0_putUpdate_4 (by decide) (by omega) (fun c4 => ?_) (fun c4 => ?_)
  · skip
    exact k_vret hx hb hr hlk (P_eq (congrArg (wC g a n) (by simp [lput]; omega)) hP) hS dX0_putUpdate_15
  · skip
    refine lv_aload_n hx hb dX0_putUpdate_7 rfl (lv_at hl 0 rfl) ?_
    refine va_get (D := g.1) (C := RX0) (T := TX0) (N := 3) (ci := 0) hx hb hu0 (fun _ h => h) hown hC.1 hP _ (wC_link (i := i) hi) rfl 0 (by decide) (hts (.fieldLink RX0 10 "SplicedChain$Link" "updates" "LSplicedChain$Queue;") (by decide +kernel)) (fun _ h9 => h9) rfl dX0_putUpdate_8 ?_
    refine lv_iload_n hx hb dX0_putUpdate_11 rfl (lv_at hl 1 rfl) ?_
    refine kV_v (w2 := wC g a n (qput s (2 * i + 0) v)) (As := [.int (nI v)]) (b := a (7 * i + 8)) (rest := []) (A1 := A) hfx (c_X2_put l hA hn6 (s := s) (i := i) (w := 0) (v := v) hi (by decide) (by omega) (by omega)) (cwV 1 hts gX0_putUpdate_X2_put rfl rfl rfl (by decide +kernel) ⟨by decide, by decide⟩) (va_recv hC.1 hP (ci := 2) rfl (wC_q (i := i) (w := 0) hi (by decide))) hC hP hS (fun _ h => h) rfl hl.1 rfl (Nat.le_of_ble_eq_true rfl) dX0_putUpdate_12 ⟨Nat.le_of_ble_eq_true rfl, Nat.le_of_ble_eq_true rfl⟩ (fun H locs hP hS _ _ => ?_)
    exact k_vret hx hb hr hlk (P_eq (congrArg (wC g a n) (by simp [lput]; omega)) hP) hS dX0_putUpdate_15
set_option maxHeartbeats 4000000 in
set_option maxRecDepth 100000 in
/-- Link.putAcknowledgement -/
theorem c_X0_putAcknowledgement (l : Launch) {g : GG} {a : Nat → Nat} {n : Nat} {A : Nat → Prop} (hA : Ap A a (5 + 7 * n)) (hn6 : n ≤ 6) {s : CS} {i v : Nat} (hi : i < n) (hs : Sh n s) : Met l yX0_putAcknowledgement wsX0_putAcknowledgement ({ frames := 1, cells := 0, slots := 0, locals := 21 }) (pC g [.ref (a (7 * i + 7)), .int (nI v)] (wC g a n s)) (qV g (wC g a n (lput s i 1 v)) A) 0 0 A := by
  refine k_start (cc := cX0_putAcknowledgement) (maxL := 2) (ret := none) (by decide) rfl (Nat.le_of_ble_eq_true rfl) ?_
  intro pr en s0 m args below meth cd hx hb hml hr hlk hts hown hin hC hP ls hl
  have hS : va_S A s0.heap s0.heap [] := va_S.rf
  have hfx : CallFix pr m cd cX0_putAcknowledgement 2 s0 args wsX0_putAcknowledgement RX0 := ⟨hx, hb, hml, hown, hts⟩
  have hu0 : ∀ w ∈ wsX00, w.before args s0 = true := fun w h => hts w ((by decide +kernel : ∀ w ∈ wsX00, w ∈ wsX0_putAcknowledgement) w h)
  have hl : lv_has ls 2 [(0, .ref (a (7 * i + 7))), (1, .int (nI v))] := hl
  have f1 := hs.nd i hi
  have f2 := hs.qu (2 * i + 1) (by omega)
  refine lv_aload_n hx hb dX0_putAcknowledgement_0 rfl (lv_at hl 0 rfl) ?_
  refine va_get (D := g.1) (C := RX0) (T := TX0) (N := 3) (ci := 0) hx hb hu0 (fun _ h => h) hown hC.1 hP _ (wC_link (i := i) hi) rfl 2 (by decide) (hts (.fieldLink RX0 19 "SplicedChain$Link" "open" "Z") (by decide +kernel)) (fun _ h9 => h9) rfl dX0_putAcknowledgement_1 ?_
  refine k_if_eq (tgt := 15) hx hb dX0_putAcknowledgement_4 (by decide) (by omega) (fun c4 => ?_) (fun c4 => ?_)
  · skip
    exact k_vret hx hb hr hlk (P_eq (congrArg (wC g a n) (by simp [lput]; omega)) hP) hS dX0_putAcknowledgement_15
  · skip
    refine lv_aload_n hx hb dX0_putAcknowledgement_7 rfl (lv_at hl 0 rfl) ?_
    refine va_get (D := g.1) (C := RX0) (T := TX0) (N := 3) (ci := 0) hx hb hu0 (fun _ h => h) hown hC.1 hP _ (wC_link (i := i) hi) rfl 1 (by decide) (hts (.fieldLink RX0 16 "SplicedChain$Link" "acknowledgements" "LSplicedChain$Queue;") (by decide +kernel)) (fun _ h9 => h9) rfl dX0_putAcknowledgement_8 ?_
    refine lv_iload_n hx hb dX0_putAcknowledgement_11 rfl (lv_at hl 1 rfl) ?_
    refine kV_v (w2 := wC g a n (qput s (2 * i + 1) v)) (As := [.int (nI v)]) (b := a (7 * i + 10)) (rest := []) (A1 := A) hfx (c_X2_put l hA hn6 (s := s) (i := i) (w := 1) (v := v) hi (by decide) (by omega) (by omega)) (cwV 1 hts gX0_putAcknowledgement_X2_put rfl rfl rfl (by decide +kernel) ⟨by decide, by decide⟩) (va_recv hC.1 hP (ci := 2) rfl (wC_q (i := i) (w := 1) hi (by decide))) hC hP hS (fun _ h => h) rfl hl.1 rfl (Nat.le_of_ble_eq_true rfl) dX0_putAcknowledgement_12 ⟨Nat.le_of_ble_eq_true rfl, Nat.le_of_ble_eq_true rfl⟩ (fun H locs hP hS _ _ => ?_)
    exact k_vret hx hb hr hlk (P_eq (congrArg (wC g a n) (by simp [lput]; omega)) hP) hS dX0_putAcknowledgement_15
set_option maxHeartbeats 4000000 in
set_option maxRecDepth 100000 in
/-- Link.close -/
theorem c_X0_close (l : Launch) {g : GG} {a : Nat → Nat} {n : Nat} {A : Nat → Prop} (hA : Ap A a (5 + 7 * n)) (hn6 : n ≤ 6) {s : CS} {i : Nat} (hi : i < n) : Met l yX0_close wsX0_close ({ frames := 1, cells := 0, slots := 0, locals := 20 }) (pC g [.ref (a (7 * i + 7))] (wC g a n s)) (qV g (wC g a n (lclose s i)) A) 0 0 A := by
  refine k_start (cc := cX0_close) (maxL := 1) (ret := none) (by decide) rfl (Nat.le_of_ble_eq_true rfl) ?_
  intro pr en s0 m args below meth cd hx hb hml hr hlk hts hown hin hC hP ls hl
  have hS : va_S A s0.heap s0.heap [] := va_S.rf
  have hfx : CallFix pr m cd cX0_close 1 s0 args wsX0_close RX0 := ⟨hx, hb, hml, hown, hts⟩
  have hu0 : ∀ w ∈ wsX00, w.before args s0 = true := fun w h => hts w ((by decide +kernel : ∀ w ∈ wsX00, w ∈ wsX0_close) w h)
  have hl : lv_has ls 1 [(0, .ref (a (7 * i + 7)))] := hl
  refine lv_aload_n hx hb dX0_close_0 rfl (lv_at hl 0 rfl) ?_
  refine k_ic (x := 0) hx hb dX0_close_1 (by decide) ?_
  refine va_put (D := g.1) (v := .int (nI 0)) (ty := .boolean) (C := RX0) (T := TX0) (N := 3) (ci := 0) hx hb hu0 (fun _ h => h) tyX0 tyX0_ok nmX0 hown hC.1 hP hA.D hS _ (wC_link (i := i) hi) rfl 2 (by decide) (hts (.fieldLink RX0 19 "SplicedChain$Link" "open" "Z") (by decide +kernel)) (fun _ h9 => h9) rfl (by decide +kernel) (by decide) rfl (Nat.le_of_ble_eq_true rfl) dX0_close_2 (fun H locs hP _ hS => ?_)
  have hP : va_P g.1 vwCl (wC g a n (w3 s 8 i 0 0)) H := P_eq (wp_open (i := i)) hP
  refine lv_aload_n hx hb dX0_close_5 rfl (lv_at hl 0 rfl) ?_
  refine va_get (D := g.1) (C := RX0) (T := TX0) (N := 3) (ci := 0) hx hb hu0 (fun _ h => h) hown hC.1 hP _ (wC_link (i := i) hi) rfl 0 (by decide) (hts (.fieldLink RX0 10 "SplicedChain$Link" "updates" "LSplicedChain$Queue;") (by decide +kernel)) (fun _ h9 => h9) rfl dX0_close_6 ?_
  refine kV_v (w2 := wC g a n (w3 (w3 s 8 i 0 0) 10 ((2 * i + 0)) 0 0)) (As := []) (b := a (7 * i + 8)) (rest := []) (A1 := A) hfx (c_X2_clear l hA hn6 (s := (w3 s 8 i 0 0)) (i := i) (w := 0) hi (by decide)) (cwV 0 hts gX0_close_X2_clear rfl rfl rfl (by decide +kernel) ⟨by decide, by decide⟩) (va_recv hC.1 hP (ci := 2) rfl (wC_q (i := i) (w := 0) hi (by decide))) hC hP hS (fun _ h => h) rfl hl.1 rfl (Nat.le_of_ble_eq_true rfl) dX0_close_9 ⟨Nat.le_of_ble_eq_true rfl, Nat.le_of_ble_eq_true rfl⟩ (fun H locs hP hS _ _ => ?_)
  refine lv_aload_n hx hb dX0_close_12 rfl (lv_at hl 0 rfl) ?_
  refine va_get (D := g.1) (C := RX0) (T := TX0) (N := 3) (ci := 0) hx hb hu0 (fun _ h => h) hown hC.1 hP _ (wC_link (i := i) hi) rfl 1 (by decide) (hts (.fieldLink RX0 16 "SplicedChain$Link" "acknowledgements" "LSplicedChain$Queue;") (by decide +kernel)) (fun _ h9 => h9) rfl dX0_close_13 ?_
  refine kV_v (w2 := wC g a n (w3 (w3 (w3 s 8 i 0 0) 10 ((2 * i + 0)) 0 0) 10 ((2 * i + 1)) 0 0)) (As := []) (b := a (7 * i + 10)) (rest := []) (A1 := A) hfx (c_X2_clear l hA hn6 (s := (w3 (w3 s 8 i 0 0) 10 ((2 * i + 0)) 0 0)) (i := i) (w := 1) hi (by decide)) (cwV 0 hts gX0_close_X2_clear rfl rfl rfl (by decide +kernel) ⟨by decide, by decide⟩) (va_recv hC.1 hP (ci := 2) rfl (wC_q (i := i) (w := 1) hi (by decide))) hC hP hS (fun _ h => h) rfl hl.1 rfl (Nat.le_of_ble_eq_true rfl) dX0_close_16 ⟨Nat.le_of_ble_eq_true rfl, Nat.le_of_ble_eq_true rfl⟩ (fun H locs hP hS _ _ => ?_)
  exact k_vret hx hb hr hlk hP hS dX0_close_19
end
section
theorem nI_m1 {p : Nat} (h : p < 2147483648) : ¬ nI p = -1 := by
  intro q
  have h1 := nI_toInt h
  rw [q] at h1
  have h2 : (-1 : Int32).toInt = -1 := by decide
  omega
set_option maxHeartbeats 4000000 in
set_option maxRecDepth 100000 in
/-- isNode of a node -/
theorem c_X3_isNode (l : Launch) {g : GG} {a : Nat → Nat} {n : Nat} {A : Nat → Prop} (hA : Ap A a (5 + 7 * n)) (hn6 : n ≤ 6) {s : CS} {j : Nat} (hj : j < n) : Met l yX3_isNode wsX3_isNode ({ frames := 0, cells := 0, slots := 0, locals := 0 }) (pC g [.ref (a 0), .int (nI j)] (wC g a n s)) (qI g (nI 1) (wC g a n s) A) 0 0 A := by
  refine k_start (cc := cX3_isNode) (maxL := 2) (ret := (some .boolean)) (by decide) rfl (Nat.le_of_ble_eq_true rfl) ?_
  intro pr en s0 m args below meth cd hx hb hml hr hlk hts hown hin hC hP ls hl
  have hS : va_S A s0.heap s0.heap [] := va_S.rf
  have hfx : CallFix pr m cd cX3_isNode 2 s0 args wsX3_isNode RX3 := ⟨hx, hb, hml, hown, hts⟩
  have hu3 : ∀ w ∈ wsX30, w.before args s0 = true := fun w h => hts w ((by decide +kernel : ∀ w ∈ wsX30, w ∈ wsX3_isNode) w h)
  have hl : lv_has ls 2 [(0, .ref (a 0)), (1, .int (nI j))] := hl
  refine lv_iload_n hx hb dX3_isNode_0 rfl (lv_at hl 1 rfl) ?_
  refine lv_if_lt (tgt := 17) hx hb dX3_isNode_1 (by decide) (fun c1 => ?_) (fun c1 => ?_)
  · exact absurd c1 (nI_pos (by omega))
  · skip
    refine lv_iload_n hx hb dX3_isNode_4 rfl (lv_at hl 1 rfl) ?_
    refine lv_aload_n hx hb dX3_isNode_5 rfl (lv_at hl 0 rfl) ?_
    refine va_get (D := g.1) (C := RX3) (T := TX3) (N := 6) (ci := 3) hx hb hu3 (fun _ h => h) hown hC.1 hP _ (wC_obj) rfl 0 (by decide) (hts (.fieldLink RX3 22 "SplicedChain" "nodes" "[LSplicedChain$Node;") (by decide +kernel)) (fun _ h9 => h9) rfl dX3_isNode_6 ?_
    refine va_alen hx hb hC.1 hP _ 2 (wC_nodes) rfl (v := nI n) rfl dX3_isNode_9 ?_
    refine k_icmp_ge (tgt := 17) hx hb dX3_isNode_10 (by decide) (by omega) (by omega) (fun c10 => ?_) (fun c10 => ?_)
    · exfalso; omega
    · skip
      refine k_ic (x := 1) hx hb dX3_isNode_13 (by decide) ?_
      refine lv_goto (tgt := 18) hx hb dX3_isNode_14 (by decide) ?_
      exact k_zret hx hb hr hlk (by rfl) (by decide) hP hS dX3_isNode_18
set_option maxHeartbeats 4000000 in
set_option maxRecDepth 100000 in
/-- isNode of no node -/
theorem c_X3_isNode_no (l : Launch) {g : GG} {a : Nat → Nat} {n : Nat} {A : Nat → Prop} (hA : Ap A a (5 + 7 * n)) (hn6 : n ≤ 6) {s : CS} {x : Int32} (hbad : x < 0 ∨ nI n ≤ x) : Met l yX3_isNode wsX3_isNode ({ frames := 0, cells := 0, slots := 0, locals := 0 }) (pC g [.ref (a 0), .int (x)] (wC g a n s)) (qI g (nI 0) (wC g a n s) A) 0 0 A := by
  refine k_start (cc := cX3_isNode) (maxL := 2) (ret := (some .boolean)) (by decide) rfl (Nat.le_of_ble_eq_true rfl) ?_
  intro pr en s0 m args below meth cd hx hb hml hr hlk hts hown hin hC hP ls hl
  have hS : va_S A s0.heap s0.heap [] := va_S.rf
  have hfx : CallFix pr m cd cX3_isNode 2 s0 args wsX3_isNode RX3 := ⟨hx, hb, hml, hown, hts⟩
  have hu3 : ∀ w ∈ wsX30, w.before args s0 = true := fun w h => hts w ((by decide +kernel : ∀ w ∈ wsX30, w ∈ wsX3_isNode) w h)
  have hl : lv_has ls 2 [(0, .ref (a 0)), (1, .int (x))] := hl
  refine lv_iload_n hx hb dX3_isNode_0 rfl (lv_at hl 1 rfl) ?_
  refine lv_if_lt (tgt := 17) hx hb dX3_isNode_1 (by decide) (fun c1 => ?_) (fun c1 => ?_)
  · skip
    refine k_ic (x := 0) hx hb dX3_isNode_17 (by decide) ?_
    exact k_zret hx hb hr hlk (by rfl) (by decide) hP hS dX3_isNode_18
  · skip
    refine lv_iload_n hx hb dX3_isNode_4 rfl (lv_at hl 1 rfl) ?_
    refine lv_aload_n hx hb dX3_isNode_5 rfl (lv_at hl 0 rfl) ?_
    refine va_get (D := g.1) (C := RX3) (T := TX3) (N := 6) (ci := 3) hx hb hu3 (fun _ h => h) hown hC.1 hP _ (wC_obj) rfl 0 (by decide) (hts (.fieldLink RX3 22 "SplicedChain" "nodes" "[LSplicedChain$Node;") (by decide +kernel)) (fun _ h9 => h9) rfl dX3_isNode_6 ?_
    refine va_alen hx hb hC.1 hP _ 2 (wC_nodes) rfl (v := nI n) rfl dX3_isNode_9 ?_
    refine lv_icmp_ge (tgt := 17) hx hb dX3_isNode_10 (by decide) (fun c10 => ?_) (fun c10 => ?_)
    · skip
      refine k_ic (x := 0) hx hb dX3_isNode_17 (by decide) ?_
      exact k_zret hx hb hr hlk (by rfl) (by decide) hP hS dX3_isNode_18
    · exact absurd (hbad.resolve_left c1) c10
set_option maxHeartbeats 4000000 in
set_option maxRecDepth 100000 in
/-- isKey of a key -/
theorem c_X3_isKey (l : Launch) {g : GG} {a : Nat → Nat} {n : Nat} {A : Nat → Prop} (hA : Ap A a (5 + 7 * n)) (hn6 : n ≤ 6) {s : CS} {j : Nat} (hj : j < 8) : Met l yX3_isKey wsX3_isKey ({ frames := 0, cells := 0, slots := 0, locals := 0 }) (pC g [.int (nI j)] (wC g a n s)) (qI g (nI 1) (wC g a n s) A) 0 0 A := by
  refine k_start (cc := cX3_isKey) (maxL := 1) (ret := (some .boolean)) (by decide) rfl (Nat.le_of_ble_eq_true rfl) ?_
  intro pr en s0 m args below meth cd hx hb hml hr hlk hts hown hin hC hP ls hl
  have hS : va_S A s0.heap s0.heap [] := va_S.rf
  have hfx : CallFix pr m cd cX3_isKey 1 s0 args wsX3_isKey RX3 := ⟨hx, hb, hml, hown, hts⟩
  have hl : lv_has ls 1 [(0, .int (nI j))] := hl
  refine lv_iload_n hx hb dX3_isKey_0 rfl (lv_at hl 0 rfl) ?_
  refine lv_if_lt (tgt := 14) hx hb dX3_isKey_1 (by decide) (fun c1 => ?_) (fun c1 => ?_)
  · exact absurd c1 (nI_pos (by omega))
  · skip
    refine lv_iload_n hx hb dX3_isKey_4 rfl (lv_at hl 0 rfl) ?_
    refine k_bi (x := 8) hx hb dX3_isKey_5 (by decide) ?_
    refine k_icmp_ge (tgt := 14) hx hb dX3_isKey_7 (by decide) (by omega) (by omega) (fun c7 => ?_) (fun c7 => ?_)
    · exfalso; omega
    · skip
      refine k_ic (x := 1) hx hb dX3_isKey_10 (by decide) ?_
      refine lv_goto (tgt := 15) hx hb dX3_isKey_11 (by decide) ?_
      exact k_zret hx hb hr hlk (by rfl) (by decide) hP hS dX3_isKey_15
set_option maxHeartbeats 4000000 in
set_option maxRecDepth 100000 in
/-- isKey of no key -/
theorem c_X3_isKey_no (l : Launch) {g : GG} {a : Nat → Nat} {n : Nat} {A : Nat → Prop} (hA : Ap A a (5 + 7 * n)) (hn6 : n ≤ 6) {s : CS} {x : Int32} (hbadk : x < 0 ∨ nI 8 ≤ x) : Met l yX3_isKey wsX3_isKey ({ frames := 0, cells := 0, slots := 0, locals := 0 }) (pC g [.int (x)] (wC g a n s)) (qI g (nI 0) (wC g a n s) A) 0 0 A := by
  refine k_start (cc := cX3_isKey) (maxL := 1) (ret := (some .boolean)) (by decide) rfl (Nat.le_of_ble_eq_true rfl) ?_
  intro pr en s0 m args below meth cd hx hb hml hr hlk hts hown hin hC hP ls hl
  have hS : va_S A s0.heap s0.heap [] := va_S.rf
  have hfx : CallFix pr m cd cX3_isKey 1 s0 args wsX3_isKey RX3 := ⟨hx, hb, hml, hown, hts⟩
  have hl : lv_has ls 1 [(0, .int (x))] := hl
  refine lv_iload_n hx hb dX3_isKey_0 rfl (lv_at hl 0 rfl) ?_
  refine lv_if_lt (tgt := 14) hx hb dX3_isKey_1 (by decide) (fun c1 => ?_) (fun c1 => ?_)
  · skip
    refine k_ic (x := 0) hx hb dX3_isKey_14 (by decide) ?_
    exact k_zret hx hb hr hlk (by rfl) (by decide) hP hS dX3_isKey_15
  · skip
    refine lv_iload_n hx hb dX3_isKey_4 rfl (lv_at hl 0 rfl) ?_
    refine k_bi (x := 8) hx hb dX3_isKey_5 (by decide) ?_
    refine lv_icmp_ge (tgt := 14) hx hb dX3_isKey_7 (by decide) (fun c7 => ?_) (fun c7 => ?_)
    · skip
      refine k_ic (x := 0) hx hb dX3_isKey_14 (by decide) ?_
      exact k_zret hx hb hr hlk (by rfl) (by decide) hP hS dX3_isKey_15
    · exact absurd (hbadk.resolve_left c1) c7
set_option maxHeartbeats 4000000 in
set_option maxRecDepth 100000 in
/-- nodeAt -/
theorem c_X3_nodeAt (l : Launch) {g : GG} {a : Nat → Nat} {n : Nat} {A : Nat → Prop} (hA : Ap A a (5 + 7 * n)) (hn6 : n ≤ 6) {s : CS} {p x : Nat} (hxe : s 0 0 p = x) (hxn : x < n) (hp : p < n) : Met l yX3_nodeAt wsX3_nodeAt ({ frames := 0, cells := 0, slots := 0, locals := 0 }) (pC g [.ref (a 0), .int (nI p)] (wC g a n s)) (qR g (a (7 * x + 5)) (wC g a n s) A) 0 0 A := by
  refine k_start (cc := cX3_nodeAt) (maxL := 2) (ret := (some (.object "SplicedChain$Node"))) (by decide) rfl (Nat.le_of_ble_eq_true rfl) ?_
  intro pr en s0 m args below meth cd hx hb hml hr hlk hts hown hin hC hP ls hl
  have hS : va_S A s0.heap s0.heap [] := va_S.rf
  have hfx : CallFix pr m cd cX3_nodeAt 2 s0 args wsX3_nodeAt RX3 := ⟨hx, hb, hml, hown, hts⟩
  have hu3 : ∀ w ∈ wsX30, w.before args s0 = true := fun w h => hts w ((by decide +kernel : ∀ w ∈ wsX30, w ∈ wsX3_nodeAt) w h)
  have hl : lv_has ls 2 [(0, .ref (a 0)), (1, .int (nI p))] := hl
  subst hxe
  refine lv_aload_n hx hb dX3_nodeAt_0 rfl (lv_at hl 0 rfl) ?_
  refine va_get (D := g.1) (C := RX3) (T := TX3) (N := 6) (ci := 3) hx hb hu3 (fun _ h => h) hown hC.1 hP _ (wC_obj) rfl 0 (by decide) (hts (.fieldLink RX3 22 "SplicedChain" "nodes" "[LSplicedChain$Node;") (by decide +kernel)) (fun _ h9 => h9) rfl dX3_nodeAt_1 ?_
  refine lv_aload_n hx hb dX3_nodeAt_4 rfl (lv_at hl 0 rfl) ?_
  refine va_get (D := g.1) (C := RX3) (T := TX3) (N := 6) (ci := 3) hx hb hu3 (fun _ h => h) hown hC.1 hP _ (wC_obj) rfl 1 (by decide) (hts (.fieldLink RX3 26 "SplicedChain" "chain" "[I") (by decide +kernel)) (fun _ h9 => h9) rfl dX3_nodeAt_5 ?_
  refine lv_iload_n hx hb dX3_nodeAt_8 rfl (lv_at hl 1 rfl) ?_
  refine k_iald hx hb hC hP _ (wC_chain) (j := p) (by omega) (by omega) dX3_nodeAt_9 ?_
  refine k_aald (x := a (7 * (s 0 0 p) + 5)) hx hb hC hP _ (wC_nodes) (j := s 0 0 p) (by omega) (by omega) (by simp; omega) dX3_nodeAt_10 ?_
  exact k_aret hx hb hr hlk hP hS dX3_nodeAt_11
set_option maxHeartbeats 4000000 in
set_option maxRecDepth 100000 in
/-- isTailAt -/
theorem c_X3_isTailAt (l : Launch) {g : GG} {a : Nat → Nat} {n : Nat} {A : Nat → Prop} (hA : Ap A a (5 + 7 * n)) (hn6 : n ≤ 6) {s : CS} {p L : Nat} (hL : s 1 0 0 = L) (hL1 : 1 ≤ L) (hpL : p ≤ 6 ∧ L ≤ 6) : Met l yX3_isTailAt wsX3_isTailAt ({ frames := 0, cells := 0, slots := 0, locals := 0 }) (pC g [.ref (a 0), .int (nI p)] (wC g a n s)) (qI g (nI (if p + 1 = L then 1 else 0)) (wC g a n s) A) 0 0 A := by
  refine k_start (cc := cX3_isTailAt) (maxL := 2) (ret := (some .boolean)) (by decide) rfl (Nat.le_of_ble_eq_true rfl) ?_
  intro pr en s0 m args below meth cd hx hb hml hr hlk hts hown hin hC hP ls hl
  have hS : va_S A s0.heap s0.heap [] := va_S.rf
  have hfx : CallFix pr m cd cX3_isTailAt 2 s0 args wsX3_isTailAt RX3 := ⟨hx, hb, hml, hown, hts⟩
  have hu3 : ∀ w ∈ wsX30, w.before args s0 = true := fun w h => hts w ((by decide +kernel : ∀ w ∈ wsX30, w ∈ wsX3_isTailAt) w h)
  have hl : lv_has ls 2 [(0, .ref (a 0)), (1, .int (nI p))] := hl
  subst hL
  refine lv_iload_n hx hb dX3_isTailAt_0 rfl (lv_at hl 1 rfl) ?_
  refine lv_aload_n hx hb dX3_isTailAt_1 rfl (lv_at hl 0 rfl) ?_
  refine va_get (D := g.1) (C := RX3) (T := TX3) (N := 6) (ci := 3) hx hb hu3 (fun _ h => h) hown hC.1 hP _ (wC_obj) rfl 2 (by decide) (hts (.fieldLink RX3 29 "SplicedChain" "chainLength" "I") (by decide +kernel)) (fun _ h9 => h9) rfl dX3_isTailAt_2 ?_
  refine k_ic (x := 1) hx hb dX3_isTailAt_5 (by decide) ?_
  refine k_isub (x := s 1 0 0) (y := 1) hx hb (by omega) dX3_isTailAt_6 ?_
  refine k_icmp_ne (tgt := 14) hx hb dX3_isTailAt_7 (by decide) (by omega) (by omega) (fun c7 => ?_) (fun c7 => ?_)
  · skip
    refine k_ic (x := 0) hx hb dX3_isTailAt_14 (by decide) ?_
    exact k_zret hx hb hr hlk (by first | rw [if_pos (by omega)] | rw [if_neg (by omega)]) (by decide) hP hS dX3_isTailAt_15
  · skip
    refine k_ic (x := 1) hx hb dX3_isTailAt_10 (by decide) ?_
    refine lv_goto (tgt := 15) hx hb dX3_isTailAt_11 (by decide) ?_
    exact k_zret hx hb hr hlk (by first | rw [if_pos (by omega)] | rw [if_neg (by omega)]) (by decide) hP hS dX3_isTailAt_15
set_option maxHeartbeats 4000000 in
set_option maxRecDepth 100000 in
/-- positionOf -/
theorem c_X3_positionOf (l : Launch) {g : GG} {a : Nat → Nat} {n : Nat} {A : Nat → Prop} (hA : Ap A a (5 + 7 * n)) (hn6 : n ≤ 6) {s : CS} {p nd : Nat} (hs : Sh n s) (hnd : nd < n) (hp : p < s 1 0 0) (hpe : s 0 0 p = nd) (hf : ∀ k, k < p → s 0 0 k ≠ nd) : Met l yX3_positionOf wsX3_positionOf ({ frames := 0, cells := 0, slots := 0, locals := 0 }) (pC g [.ref (a 0), .int (nI nd)] (wC g a n s)) (qI g (nI p) (wC g a n s) A) 0 0 A := by
  refine k_start (cc := cX3_positionOf) (maxL := 3) (ret := (some .int)) (by decide) rfl (Nat.le_of_ble_eq_true rfl) ?_
  intro pr en s0 m args below meth cd hx hb hml hr hlk hts hown hin hC hP ls hl
  have hS : va_S A s0.heap s0.heap [] := va_S.rf
  have hfx : CallFix pr m cd cX3_positionOf 3 s0 args wsX3_positionOf RX3 := ⟨hx, hb, hml, hown, hts⟩
  have hu3 : ∀ w ∈ wsX30, w.before args s0 = true := fun w h => hts w ((by decide +kernel : ∀ w ∈ wsX30, w ∈ wsX3_positionOf) w h)
  have hl : lv_has ls 3 [(0, .ref (a 0)), (1, .int (nI nd))] := hl
  have f0 := hs.len
  have loop : ∀ (d k : Nat), p + 1 ≤ k + d → k ≤ p → ∀ ls : Array Slot, lv_has ls 3 [(2, .int (nI k)), (0, .ref (a 0)), (1, .int (nI nd))] → W pr l en ({ frames := 0, cells := 0, slots := 0, locals := 0 }) s0 m args below meth cd s0.heap [] 0 0 (MQ below (qI g (nI p) (wC g a n s) A) args s0 0 0 A) (F0 m 2 ls []) := by
    intro d
    induction d with
    | zero => intro k h1 h2; exact absurd h1 (by omega)
    | succ d ih =>
      intro k h1 h2 ls hl
      refine lv_iload_n hx hb dX3_positionOf_2 rfl (lv_at hl 0 rfl) ?_
      refine lv_aload_n hx hb dX3_positionOf_3 rfl (lv_at hl 1 rfl) ?_
      refine va_get (D := g.1) (C := RX3) (T := TX3) (N := 6) (ci := 3) hx hb hu3 (fun _ h => h) hown hC.1 hP _ (wC_obj) rfl 2 (by decide) (hts (.fieldLink RX3 29 "SplicedChain" "chainLength" "I") (by decide +kernel)) (fun _ h9 => h9) rfl dX3_positionOf_4 ?_
      refine k_icmp_ge (tgt := 28) hx hb dX3_positionOf_7 (by decide) (by omega) (by omega) (fun c7 => ?_) (fun c7 => ?_)
      · exfalso; omega
      · skip
        have f1 := hs.ch k (by omega)
        refine lv_aload_n hx hb dX3_positionOf_10 rfl (lv_at hl 1 rfl) ?_
        refine va_get (D := g.1) (C := RX3) (T := TX3) (N := 6) (ci := 3) hx hb hu3 (fun _ h => h) hown hC.1 hP _ (wC_obj) rfl 1 (by decide) (hts (.fieldLink RX3 26 "SplicedChain" "chain" "[I") (by decide +kernel)) (fun _ h9 => h9) rfl dX3_positionOf_11 ?_
        refine lv_iload_n hx hb dX3_positionOf_14 rfl (lv_at hl 0 rfl) ?_
        refine k_iald hx hb hC hP _ (wC_chain) (j := k) (by omega) (by omega) dX3_positionOf_15 ?_
        refine lv_iload_n hx hb dX3_positionOf_16 rfl (lv_at hl 2 rfl) ?_
        refine k_icmp_ne (tgt := 22) hx hb dX3_positionOf_17 (by decide) (by omega) (by omega) (fun c17 => ?_) (fun c17 => ?_)
        · skip
          have f2 : k ≠ p := fun q => c17 (by rw [q]; exact hpe)
          refine lv_iinc (v := nI (k + 1)) (lv' := [(2, .int (nI (k + 1))), (0, .ref (a 0)), (1, .int (nI nd))]) hx hb dX3_positionOf_22 hl (k := 0) rfl (nI_add _ _) (by decide) rfl (fun ls hl => ?_)
          refine lv_goto (tgt := 2) hx hb dX3_positionOf_25 (by decide) ?_
          exact ih (k + 1) (by omega) (by omega) ls (lv_sub hl [0, 1, 2] rfl)
        · skip
          have f2 : k = p := by rcases Nat.lt_or_ge k p with q | q; exact absurd c17 (hf k q); omega
          refine lv_iload_n hx hb dX3_positionOf_20 rfl (lv_at hl 0 rfl) ?_
          exact k_iret hx hb hr hlk (by rw [f2]) hP hS dX3_positionOf_21
  refine k_ic (x := 0) hx hb dX3_positionOf_0 (by decide) ?_
  refine lv_istore_n (lv' := [(2, .int (nI 0)), (0, .ref (a 0)), (1, .int (nI nd))]) hx hb dX3_positionOf_1 rfl hl (by decide) rfl (fun ls hl => ?_)
  exact loop (p + 1) 0 (by omega) (by omega) ls (lv_sub hl [0, 1, 2] rfl)
set_option maxHeartbeats 4000000 in
set_option maxRecDepth 100000 in
/-- positionOf -/
theorem c_X3_positionOf_no (l : Launch) {g : GG} {a : Nat → Nat} {n : Nat} {A : Nat → Prop} (hA : Ap A a (5 + 7 * n)) (hn6 : n ≤ 6) {s : CS} {nd : Nat} (hs : Sh n s) (hnd : nd < n) (hno : ∀ k, k < s 1 0 0 → s 0 0 k ≠ nd) : Met l yX3_positionOf wsX3_positionOf ({ frames := 0, cells := 0, slots := 0, locals := 0 }) (pC g [.ref (a 0), .int (nI nd)] (wC g a n s)) (qI g (-1) (wC g a n s) A) 0 0 A := by
  refine k_start (cc := cX3_positionOf) (maxL := 3) (ret := (some .int)) (by decide) rfl (Nat.le_of_ble_eq_true rfl) ?_
  intro pr en s0 m args below meth cd hx hb hml hr hlk hts hown hin hC hP ls hl
  have hS : va_S A s0.heap s0.heap [] := va_S.rf
  have hfx : CallFix pr m cd cX3_positionOf 3 s0 args wsX3_positionOf RX3 := ⟨hx, hb, hml, hown, hts⟩
  have hu3 : ∀ w ∈ wsX30, w.before args s0 = true := fun w h => hts w ((by decide +kernel : ∀ w ∈ wsX30, w ∈ wsX3_positionOf) w h)
  have hl : lv_has ls 3 [(0, .ref (a 0)), (1, .int (nI nd))] := hl
  have f0 := hs.len
  have loop : ∀ (d k : Nat), s 1 0 0 + 1 ≤ k + d → k ≤ s 1 0 0 → ∀ ls : Array Slot, lv_has ls 3 [(2, .int (nI k)), (0, .ref (a 0)), (1, .int (nI nd))] → W pr l en ({ frames := 0, cells := 0, slots := 0, locals := 0 }) s0 m args below meth cd s0.heap [] 0 0 (MQ below (qI g (-1) (wC g a n s) A) args s0 0 0 A) (F0 m 2 ls []) := by
    intro d
    induction d with
    | zero => intro k h1 h2; exact absurd h1 (by omega)
    | succ d ih =>
      intro k h1 h2 ls hl
      refine lv_iload_n hx hb dX3_positionOf_2 rfl (lv_at hl 0 rfl) ?_
      refine lv_aload_n hx hb dX3_positionOf_3 rfl (lv_at hl 1 rfl) ?_
      refine va_get (D := g.1) (C := RX3) (T := TX3) (N := 6) (ci := 3) hx hb hu3 (fun _ h => h) hown hC.1 hP _ (wC_obj) rfl 2 (by decide) (hts (.fieldLink RX3 29 "SplicedChain" "chainLength" "I") (by decide +kernel)) (fun _ h9 => h9) rfl dX3_positionOf_4 ?_
      refine k_icmp_ge (tgt := 28) hx hb dX3_positionOf_7 (by decide) (by omega) (by omega) (fun c7 => ?_) (fun c7 => ?_)
      · skip
        refine lv_iconst (v := -1) hx hb dX3_positionOf_28 (by decide) ?_
        exact k_iret hx hb hr hlk (by rfl) hP hS dX3_positionOf_29
      · skip
        have f1 := hs.ch k (by omega)
        refine lv_aload_n hx hb dX3_positionOf_10 rfl (lv_at hl 1 rfl) ?_
        refine va_get (D := g.1) (C := RX3) (T := TX3) (N := 6) (ci := 3) hx hb hu3 (fun _ h => h) hown hC.1 hP _ (wC_obj) rfl 1 (by decide) (hts (.fieldLink RX3 26 "SplicedChain" "chain" "[I") (by decide +kernel)) (fun _ h9 => h9) rfl dX3_positionOf_11 ?_
        refine lv_iload_n hx hb dX3_positionOf_14 rfl (lv_at hl 0 rfl) ?_
        refine k_iald hx hb hC hP _ (wC_chain) (j := k) (by omega) (by omega) dX3_positionOf_15 ?_
        refine lv_iload_n hx hb dX3_positionOf_16 rfl (lv_at hl 2 rfl) ?_
        refine k_icmp_ne (tgt := 22) hx hb dX3_positionOf_17 (by decide) (by omega) (by omega) (fun c17 => ?_) (fun c17 => ?_)
        · skip
          refine lv_iinc (v := nI (k + 1)) (lv' := [(2, .int (nI (k + 1))), (0, .ref (a 0)), (1, .int (nI nd))]) hx hb dX3_positionOf_22 hl (k := 0) rfl (nI_add _ _) (by decide) rfl (fun ls hl => ?_)
          refine lv_goto (tgt := 2) hx hb dX3_positionOf_25 (by decide) ?_
          exact ih (k + 1) (by omega) (by omega) ls (lv_sub hl [0, 1, 2] rfl)
        · exact absurd c17 (hno k (by omega))
  refine k_ic (x := 0) hx hb dX3_positionOf_0 (by decide) ?_
  refine lv_istore_n (lv' := [(2, .int (nI 0)), (0, .ref (a 0)), (1, .int (nI nd))]) hx hb dX3_positionOf_1 rfl hl (by decide) rfl (fun ls hl => ?_)
  exact loop (s 1 0 0 + 1) 0 (by omega) (by omega) ls (lv_sub hl [0, 1, 2] rfl)
def cntS (s : CS) : Nat → Nat
  | 0 => 0
  | k + 1 => cntS s k + (if s 7 k 0 = 0 then 1 else 0)
theorem cntS_le (s : CS) : ∀ k, cntS s k ≤ k
  | 0 => Nat.le_refl 0
  | k + 1 => by have := cntS_le s k; simp only [cntS]; split <;> omega
set_option maxHeartbeats 4000000 in
set_option maxRecDepth 100000 in
/-- countStanding -/
theorem c_X3_countStanding (l : Launch) {g : GG} {a : Nat → Nat} {n : Nat} {A : Nat → Prop} (hA : Ap A a (5 + 7 * n)) (hn6 : n ≤ 6) {s : CS} (hs : Sh n s) : Met l yX3_countStanding wsX3_countStanding ({ frames := 0, cells := 0, slots := 0, locals := 0 }) (pC g [.ref (a 0)] (wC g a n s)) (qI g (nI (cntS s n)) (wC g a n s) A) 0 0 A := by
  refine k_start (cc := cX3_countStanding) (maxL := 3) (ret := (some .int)) (by decide) rfl (Nat.le_of_ble_eq_true rfl) ?_
  intro pr en s0 m args below meth cd hx hb hml hr hlk hts hown hin hC hP ls hl
  have hS : va_S A s0.heap s0.heap [] := va_S.rf
  have hfx : CallFix pr m cd cX3_countStanding 3 s0 args wsX3_countStanding RX3 := ⟨hx, hb, hml, hown, hts⟩
  have hu3 : ∀ w ∈ wsX30, w.before args s0 = true := fun w h => hts w ((by decide +kernel : ∀ w ∈ wsX30, w ∈ wsX3_countStanding) w h)
  have hu1 : ∀ w ∈ wsX10, w.before args s0 = true := fun w h => hts w ((by decide +kernel : ∀ w ∈ wsX10, w ∈ wsX3_countStanding) w h)
  have hl : lv_has ls 3 [(0, .ref (a 0))] := hl
  have loop : ∀ (d k : Nat), n + 1 ≤ k + d → k ≤ n → ∀ ls : Array Slot, lv_has ls 3 [(2, .int (nI k)), (1, .int (nI (cntS s k))), (0, .ref (a 0))] → W pr l en ({ frames := 0, cells := 0, slots := 0, locals := 0 }) s0 m args below meth cd s0.heap [] 0 0 (MQ below (qI g (nI (cntS s n)) (wC g a n s) A) args s0 0 0 A) (F0 m 4 ls []) := by
    intro d
    induction d with
    | zero => intro k h1 h2; exact absurd h1 (by omega)
    | succ d ih =>
      intro k h1 h2 ls hl
      refine lv_iload_n hx hb dX3_countStanding_4 rfl (lv_at hl 0 rfl) ?_
      refine lv_aload_n hx hb dX3_countStanding_5 rfl (lv_at hl 2 rfl) ?_
      refine va_get (D := g.1) (C := RX3) (T := TX3) (N := 6) (ci := 3) hx hb hu3 (fun _ h => h) hown hC.1 hP _ (wC_obj) rfl 0 (by decide) (hts (.fieldLink RX3 22 "SplicedChain" "nodes" "[LSplicedChain$Node;") (by decide +kernel)) (fun _ h9 => h9) rfl dX3_countStanding_6 ?_
      refine va_alen hx hb hC.1 hP _ 2 (wC_nodes) rfl (v := nI n) rfl dX3_countStanding_9 ?_
      refine k_icmp_ge (tgt := 34) hx hb dX3_countStanding_10 (by decide) (by omega) (by omega) (fun c10 => ?_) (fun c10 => ?_)
      · skip
        refine lv_iload_n hx hb dX3_countStanding_34 rfl (lv_at hl 1 rfl) ?_
        exact k_iret hx hb hr hlk (by rw [show k = n by omega]) hP hS dX3_countStanding_35
      · skip
        have f1 := hs.nd k (by omega)
        refine lv_aload_n hx hb dX3_countStanding_13 rfl (lv_at hl 2 rfl) ?_
        refine va_get (D := g.1) (C := RX3) (T := TX3) (N := 6) (ci := 3) hx hb hu3 (fun _ h => h) hown hC.1 hP _ (wC_obj) rfl 0 (by decide) (hts (.fieldLink RX3 22 "SplicedChain" "nodes" "[LSplicedChain$Node;") (by decide +kernel)) (fun _ h9 => h9) rfl dX3_countStanding_14 ?_
        refine lv_iload_n hx hb dX3_countStanding_17 rfl (lv_at hl 0 rfl) ?_
        refine k_aald (x := a (7 * k + 5)) hx hb hC hP _ (wC_nodes) (j := k) (by omega) (by omega) (by simp; omega) dX3_countStanding_18 ?_
        refine va_getN (D := g.1) (C := RX1) (T := TX1) (N := 5) (ci := 1) hx hb hu1 (fun _ h => h) hown hC.1 hP _ (wC_node (i := k) (by omega)) rfl 4 (by decide) (hC.F (i := 48) (r := RX1) (n := "failed") (d := "Z") (by decide +kernel)) (fun _ h9 => h9) rfl dX3_countStanding_19 ?_
        refine k_if_ne (tgt := 28) hx hb dX3_countStanding_22 (by decide) (by omega) (fun c22 => ?_) (fun c22 => ?_)
        · skip
          refine lv_iinc (v := nI (k + 1)) (lv' := [(2, .int (nI (k + 1))), (1, .int (nI (cntS s k))), (0, .ref (a 0))]) hx hb dX3_countStanding_28 hl (k := 0) rfl (nI_add _ _) (by decide) rfl (fun ls hl => ?_)
          refine lv_goto (tgt := 4) hx hb dX3_countStanding_31 (by decide) ?_
          exact ih (k + 1) (by omega) (by omega) ls (by rw [show cntS s (k + 1) = cntS s k by simp [cntS, c22]]; exact lv_sub hl [0, 1, 2] rfl)
        · skip
          refine lv_iinc (v := nI (cntS s k + 1)) (lv' := [(1, .int (nI (cntS s k + 1))), (2, .int (nI k)), (0, .ref (a 0))]) hx hb dX3_countStanding_25 hl (k := 1) rfl (nI_add _ _) (by decide) rfl (fun ls hl => ?_)
          refine lv_iinc (v := nI (k + 1)) (lv' := [(2, .int (nI (k + 1))), (1, .int (nI (cntS s k + 1))), (0, .ref (a 0))]) hx hb dX3_countStanding_28 hl (k := 1) rfl (nI_add _ _) (by decide) rfl (fun ls hl => ?_)
          refine lv_goto (tgt := 4) hx hb dX3_countStanding_31 (by decide) ?_
          exact ih (k + 1) (by omega) (by omega) ls (by rw [show cntS s (k + 1) = cntS s k + 1 by simp [cntS, c22]]; exact lv_sub hl [0, 1, 2] rfl)
  refine k_ic (x := 0) hx hb dX3_countStanding_0 (by decide) ?_
  refine lv_istore_n (lv' := [(1, .int (nI 0)), (0, .ref (a 0))]) hx hb dX3_countStanding_1 rfl hl (by decide) rfl (fun ls hl => ?_)
  refine k_ic (x := 0) hx hb dX3_countStanding_2 (by decide) ?_
  refine lv_istore_n (lv' := [(2, .int (nI 0)), (1, .int (nI 0)), (0, .ref (a 0))]) hx hb dX3_countStanding_3 rfl hl (by decide) rfl (fun ls hl => ?_)
  exact loop (n + 1) 0 (by omega) (by omega) ls (lv_sub hl [0, 1, 2] rfl)
set_option maxHeartbeats 4000000 in
set_option maxRecDepth 100000 in
/-- updatesTowards -/
theorem c_X3_updatesTowards (l : Launch) {g : GG} {a : Nat → Nat} {n : Nat} {A : Nat → Prop} (hA : Ap A a (5 + 7 * n)) (hn6 : n ≤ 6) {s : CS} {p : Nat} (hs : Sh n s) (hp : p < s 1 0 0) : Met l yX3_updatesTowards wsX3_updatesTowards ({ frames := 1, cells := 0, slots := 0, locals := 21 }) (pC g [.ref (a 0), .int (nI p)] (wC g a n s)) (qI g (nI (if 0 < p then s 10 (2 * s 0 0 (p - 1) + 0) 0 else 0)) (wC g a n s) A) 0 0 A := by
  refine k_start (cc := cX3_updatesTowards) (maxL := 2) (ret := (some .int)) (by decide) rfl (Nat.le_of_ble_eq_true rfl) ?_
  intro pr en s0 m args below meth cd hx hb hml hr hlk hts hown hin hC hP ls hl
  have hS : va_S A s0.heap s0.heap [] := va_S.rf
  have hfx : CallFix pr m cd cX3_updatesTowards 2 s0 args wsX3_updatesTowards RX3 := ⟨hx, hb, hml, hown, hts⟩
  have hu1 : ∀ w ∈ wsX10, w.before args s0 = true := fun w h => hts w ((by decide +kernel : ∀ w ∈ wsX10, w ∈ wsX3_updatesTowards) w h)
  have hu0 : ∀ w ∈ wsX00, w.before args s0 = true := fun w h => hts w ((by decide +kernel : ∀ w ∈ wsX00, w ∈ wsX3_updatesTowards) w h)
  have hu2 : ∀ w ∈ wsX20, w.before args s0 = true := fun w h => hts w ((by decide +kernel : ∀ w ∈ wsX20, w ∈ wsX3_updatesTowards) w h)
  have hl : lv_has ls 2 [(0, .ref (a 0)), (1, .int (nI p))] := hl
  have f0 := hs.len
  have f1 := hs.ch (p - 1) (by omega)
  refine lv_iload_n hx hb dX3_updatesTowards_0 rfl (lv_at hl 1 rfl) ?_
  refine k_if_le (tgt := 23) hx hb dX3_updatesTowards_1 (by decide) (by omega) (fun c1 => ?_) (fun c1 => ?_)
  · skip
    refine k_ic (x := 0) hx hb dX3_updatesTowards_23 (by decide) ?_
    exact k_iret hx hb hr hlk (by first | rw [if_pos (by omega)] | rw [if_neg (by omega)]) hP hS dX3_updatesTowards_24
  · skip
    refine lv_aload_n hx hb dX3_updatesTowards_4 rfl (lv_at hl 0 rfl) ?_
    refine lv_iload_n hx hb dX3_updatesTowards_5 rfl (lv_at hl 1 rfl) ?_
    refine k_ic (x := 1) hx hb dX3_updatesTowards_6 (by decide) ?_
    refine k_isub (x := p) (y := 1) hx hb (by omega) dX3_updatesTowards_7 ?_
    refine kV_r (r := a (7 * (s 0 0 (p - 1)) + 5)) (w2 := wC g a n s) (As := [.int (nI (p - 1))]) (b := a 0) (rest := []) (A1 := A) hfx (c_X3_nodeAt l hA hn6 (s := s) (p := p - 1) (x := s 0 0 (p - 1)) (rfl) (by omega) (by omega)) (cwV 1 hts gX3_updatesTowards_X3_nodeAt rfl rfl rfl (by decide +kernel) ⟨by decide, by decide⟩) (va_recv hC.1 hP (ci := 3) rfl (wC_obj)) hC hP hS (fun _ h => h) rfl hl.1 rfl (Nat.le_of_ble_eq_true rfl) dX3_updatesTowards_8 ⟨Nat.le_of_ble_eq_true rfl, Nat.le_of_ble_eq_true rfl⟩ (fun H locs hP hS _ _ => ?_)
    refine va_getN (D := g.1) (C := RX1) (T := TX1) (N := 5) (ci := 1) hx hb hu1 (fun _ h => h) hown hC.1 hP _ (wC_node (i := (s 0 0 (p - 1))) (by omega)) rfl 1 (by decide) (hC.F (i := 88) (r := RX1) (n := "link") (d := "LSplicedChain$Link;") (by decide +kernel)) (fun _ h9 => h9) rfl dX3_updatesTowards_11 ?_
    refine va_getN (D := g.1) (C := RX0) (T := TX0) (N := 3) (ci := 0) hx hb hu0 (fun _ h => h) hown hC.1 hP _ (wC_link (i := (s 0 0 (p - 1))) (by omega)) rfl 0 (by decide) (hC.F (i := 92) (r := RX0) (n := "updates") (d := "LSplicedChain$Queue;") (by decide +kernel)) (fun _ h9 => h9) rfl dX3_updatesTowards_14 ?_
    refine va_getN (D := g.1) (C := RX2) (T := TX2) (N := 3) (ci := 2) hx hb hu2 (fun _ h => h) hown hC.1 hP _ (wC_q (i := (s 0 0 (p - 1))) (w := 0) (by omega) (by decide)) rfl 2 (by decide) (hC.F (i := 154) (r := RX2) (n := "size") (d := "I") (by decide +kernel)) (fun _ h9 => h9) rfl dX3_updatesTowards_17 ?_
    refine lv_goto (tgt := 24) hx hb dX3_updatesTowards_20 (by decide) ?_
    exact k_iret hx hb hr hlk (by first | rw [if_pos (by omega)] | rw [if_neg (by omega)]) hP hS dX3_updatesTowards_24
set_option maxHeartbeats 4000000 in
set_option maxRecDepth 100000 in
/-- updatesTowards nowhere -/
theorem c_X3_updatesTowards_no (l : Launch) {g : GG} {a : Nat → Nat} {n : Nat} {A : Nat → Prop} (hA : Ap A a (5 + 7 * n)) (hn6 : n ≤ 6) {s : CS}  : Met l yX3_updatesTowards wsX3_updatesTowards ({ frames := 1, cells := 0, slots := 0, locals := 21 }) (pC g [.ref (a 0), .int (-1)] (wC g a n s)) (qI g (nI 0) (wC g a n s) A) 0 0 A := by
  refine k_start (cc := cX3_updatesTowards) (maxL := 2) (ret := (some .int)) (by decide) rfl (Nat.le_of_ble_eq_true rfl) ?_
  intro pr en s0 m args below meth cd hx hb hml hr hlk hts hown hin hC hP ls hl
  have hS : va_S A s0.heap s0.heap [] := va_S.rf
  have hfx : CallFix pr m cd cX3_updatesTowards 2 s0 args wsX3_updatesTowards RX3 := ⟨hx, hb, hml, hown, hts⟩
  have hl : lv_has ls 2 [(0, .ref (a 0)), (1, .int (-1))] := hl
  refine lv_iload_n hx hb dX3_updatesTowards_0 rfl (lv_at hl 1 rfl) ?_
  refine lv_if_le (tgt := 23) hx hb dX3_updatesTowards_1 (by decide) (fun c1 => ?_) (fun c1 => ?_)
  · skip
    refine k_ic (x := 0) hx hb dX3_updatesTowards_23 (by decide) ?_
    exact k_iret hx hb hr hlk (by rfl) hP hS dX3_updatesTowards_24
  · exact absurd (by decide) c1
set_option maxHeartbeats 4000000 in
set_option maxRecDepth 100000 in
/-- acknowledgementsTowards -/
theorem c_X3_acknowledgementsTowards (l : Launch) {g : GG} {a : Nat → Nat} {n : Nat} {A : Nat → Prop} (hA : Ap A a (5 + 7 * n)) (hn6 : n ≤ 6) {s : CS} {p : Nat} (hs : Sh n s) (hp : p < s 1 0 0) : Met l yX3_acknowledgementsTowards wsX3_acknowledgementsTowards ({ frames := 1, cells := 0, slots := 0, locals := 21 }) (pC g [.ref (a 0), .int (nI p)] (wC g a n s)) (qI g (nI (if p + 1 = s 1 0 0 then 0 else s 10 (2 * s 0 0 p + 1) 0)) (wC g a n s) A) 0 0 A := by
  refine k_start (cc := cX3_acknowledgementsTowards) (maxL := 3) (ret := (some .int)) (by decide) rfl (Nat.le_of_ble_eq_true rfl) ?_
  intro pr en s0 m args below meth cd hx hb hml hr hlk hts hown hin hC hP ls hl
  have hS : va_S A s0.heap s0.heap [] := va_S.rf
  have hfx : CallFix pr m cd cX3_acknowledgementsTowards 3 s0 args wsX3_acknowledgementsTowards RX3 := ⟨hx, hb, hml, hown, hts⟩
  have hu1 : ∀ w ∈ wsX10, w.before args s0 = true := fun w h => hts w ((by decide +kernel : ∀ w ∈ wsX10, w ∈ wsX3_acknowledgementsTowards) w h)
  have hu0 : ∀ w ∈ wsX00, w.before args s0 = true := fun w h => hts w ((by decide +kernel : ∀ w ∈ wsX00, w ∈ wsX3_acknowledgementsTowards) w h)
  have hu2 : ∀ w ∈ wsX20, w.before args s0 = true := fun w h => hts w ((by decide +kernel : ∀ w ∈ wsX20, w ∈ wsX3_acknowledgementsTowards) w h)
  have hl : lv_has ls 3 [(0, .ref (a 0)), (1, .int (nI p))] := hl
  have f0 := hs.len
  have f1 := hs.ch p (by omega)
  have fm : ¬ nI p = -1 := nI_m1 (by omega)
  refine lv_iload_n hx hb dX3_acknowledgementsTowards_0 rfl (lv_at hl 1 rfl) ?_
  refine lv_iconst (v := -1) hx hb dX3_acknowledgementsTowards_1 (by decide) ?_
  refine lv_icmp_eq (tgt := 17) hx hb dX3_acknowledgementsTowards_2 (by decide) (fun c2 => ?_) (fun c2 => ?_)
  · exact absurd c2 fm
  · skip
    refine lv_aload_n hx hb dX3_acknowledgementsTowards_5 rfl (lv_at hl 0 rfl) ?_
    refine lv_iload_n hx hb dX3_acknowledgementsTowards_6 rfl (lv_at hl 1 rfl) ?_
    refine kV_i (r := nI (if p + 1 = s 1 0 0 then 1 else 0)) (w2 := wC g a n s) (As := [.int (nI p)]) (b := a 0) (rest := []) (A1 := A) hfx (c_X3_isTailAt l hA hn6 (s := s) (p := p) (L := s 1 0 0) (rfl) (by omega) (by omega)) (cwV 1 hts gX3_acknowledgementsTowards_X3_isTailAt rfl rfl rfl (by decide +kernel) ⟨by decide, by decide⟩) (va_recv hC.1 hP (ci := 3) rfl (wC_obj)) hC hP hS (fun _ h => h) rfl hl.1 rfl (Nat.le_of_ble_eq_true rfl) dX3_acknowledgementsTowards_7 ⟨Nat.le_of_ble_eq_true rfl, Nat.le_of_ble_eq_true rfl⟩ (fun H locs hP hS _ _ => ?_)
    have fT7 : (if p + 1 = s 1 0 0 then 1 else 0) ≤ 1 := by split <;> omega
    refine k_if_ne (tgt := 17) hx hb dX3_acknowledgementsTowards_10 (by decide) (by omega) (fun c10 => ?_) (fun c10 => ?_)
    · skip
      have f3 : p + 1 = s 1 0 0 := by rcases Nat.decEq (p + 1) (s 1 0 0) with q | q; simp [q] at c10; exact q
      refine k_ic (x := 0) hx hb dX3_acknowledgementsTowards_17 (by decide) ?_
      refine lv_istore_n (lv' := [(2, .int (nI 0)), (0, .ref (a 0)), (1, .int (nI p))]) hx hb dX3_acknowledgementsTowards_18 rfl hl (by decide) rfl (fun ls hl => ?_)
      refine lv_iload_n hx hb dX3_acknowledgementsTowards_19 rfl (lv_at hl 0 rfl) ?_
      refine k_if_eq (tgt := 40) hx hb dX3_acknowledgementsTowards_20 (by decide) (by omega) (fun c20 => ?_) (fun c20 => ?_)
      · skip
        refine k_ic (x := 0) hx hb dX3_acknowledgementsTowards_40 (by decide) ?_
        exact k_iret hx hb hr hlk (by first | rw [if_pos (by omega)] | rw [if_neg (by omega)]) hP hS dX3_acknowledgementsTowards_41
      · exfalso; omega
    · skip
      have f3 : ¬ p + 1 = s 1 0 0 := by intro q; simp [q] at c10
      refine k_ic (x := 1) hx hb dX3_acknowledgementsTowards_13 (by decide) ?_
      refine lv_goto (tgt := 18) hx hb dX3_acknowledgementsTowards_14 (by decide) ?_
      refine lv_istore_n (lv' := [(2, .int (nI 1)), (0, .ref (a 0)), (1, .int (nI p))]) hx hb dX3_acknowledgementsTowards_18 rfl hl (by decide) rfl (fun ls hl => ?_)
      refine lv_iload_n hx hb dX3_acknowledgementsTowards_19 rfl (lv_at hl 0 rfl) ?_
      refine k_if_eq (tgt := 40) hx hb dX3_acknowledgementsTowards_20 (by decide) (by omega) (fun c20 => ?_) (fun c20 => ?_)
      · exfalso; omega
      · skip
        refine lv_aload_n hx hb dX3_acknowledgementsTowards_23 rfl (lv_at hl 1 rfl) ?_
        refine lv_iload_n hx hb dX3_acknowledgementsTowards_24 rfl (lv_at hl 2 rfl) ?_
        refine kV_r (r := a (7 * (s 0 0 p) + 5)) (w2 := wC g a n s) (As := [.int (nI p)]) (b := a 0) (rest := []) (A1 := A) hfx (c_X3_nodeAt l hA hn6 (s := s) (p := p) (x := s 0 0 p) (rfl) (by omega) (by omega)) (cwV 1 hts gX3_acknowledgementsTowards_X3_nodeAt rfl rfl rfl (by decide +kernel) ⟨by decide, by decide⟩) (va_recv hC.1 hP (ci := 3) rfl (wC_obj)) hC hP hS (fun _ h => h) rfl hl.1 rfl (Nat.le_of_ble_eq_true rfl) dX3_acknowledgementsTowards_25 ⟨Nat.le_of_ble_eq_true rfl, Nat.le_of_ble_eq_true rfl⟩ (fun H locs hP hS _ _ => ?_)
        refine va_getN (D := g.1) (C := RX1) (T := TX1) (N := 5) (ci := 1) hx hb hu1 (fun _ h => h) hown hC.1 hP _ (wC_node (i := (s 0 0 p)) (by omega)) rfl 1 (by decide) (hC.F (i := 88) (r := RX1) (n := "link") (d := "LSplicedChain$Link;") (by decide +kernel)) (fun _ h9 => h9) rfl dX3_acknowledgementsTowards_28 ?_
        refine va_getN (D := g.1) (C := RX0) (T := TX0) (N := 3) (ci := 0) hx hb hu0 (fun _ h => h) hown hC.1 hP _ (wC_link (i := (s 0 0 p)) (by omega)) rfl 1 (by decide) (hC.F (i := 109) (r := RX0) (n := "acknowledgements") (d := "LSplicedChain$Queue;") (by decide +kernel)) (fun _ h9 => h9) rfl dX3_acknowledgementsTowards_31 ?_
        refine va_getN (D := g.1) (C := RX2) (T := TX2) (N := 3) (ci := 2) hx hb hu2 (fun _ h => h) hown hC.1 hP _ (wC_q (i := (s 0 0 p)) (w := 1) (by omega) (by decide)) rfl 2 (by decide) (hC.F (i := 154) (r := RX2) (n := "size") (d := "I") (by decide +kernel)) (fun _ h9 => h9) rfl dX3_acknowledgementsTowards_34 ?_
        refine lv_goto (tgt := 41) hx hb dX3_acknowledgementsTowards_37 (by decide) ?_
        exact k_iret hx hb hr hlk (by first | rw [if_pos (by omega)] | rw [if_neg (by omega)]) hP hS dX3_acknowledgementsTowards_41
set_option maxHeartbeats 4000000 in
set_option maxRecDepth 100000 in
/-- acknowledgementsTowards nowhere -/
theorem c_X3_acknowledgementsTowards_no (l : Launch) {g : GG} {a : Nat → Nat} {n : Nat} {A : Nat → Prop} (hA : Ap A a (5 + 7 * n)) (hn6 : n ≤ 6) {s : CS}  : Met l yX3_acknowledgementsTowards wsX3_acknowledgementsTowards ({ frames := 1, cells := 0, slots := 0, locals := 21 }) (pC g [.ref (a 0), .int (-1)] (wC g a n s)) (qI g (nI 0) (wC g a n s) A) 0 0 A := by
  refine k_start (cc := cX3_acknowledgementsTowards) (maxL := 3) (ret := (some .int)) (by decide) rfl (Nat.le_of_ble_eq_true rfl) ?_
  intro pr en s0 m args below meth cd hx hb hml hr hlk hts hown hin hC hP ls hl
  have hS : va_S A s0.heap s0.heap [] := va_S.rf
  have hfx : CallFix pr m cd cX3_acknowledgementsTowards 3 s0 args wsX3_acknowledgementsTowards RX3 := ⟨hx, hb, hml, hown, hts⟩
  have hl : lv_has ls 3 [(0, .ref (a 0)), (1, .int (-1))] := hl
  refine lv_iload_n hx hb dX3_acknowledgementsTowards_0 rfl (lv_at hl 1 rfl) ?_
  refine lv_iconst (v := -1) hx hb dX3_acknowledgementsTowards_1 (by decide) ?_
  refine lv_icmp_eq (tgt := 17) hx hb dX3_acknowledgementsTowards_2 (by decide) (fun c2 => ?_) (fun c2 => ?_)
  · skip
    refine k_ic (x := 0) hx hb dX3_acknowledgementsTowards_17 (by decide) ?_
    refine lv_istore_n (lv' := [(2, .int (nI 0)), (0, .ref (a 0)), (1, .int (-1))]) hx hb dX3_acknowledgementsTowards_18 rfl hl (by decide) rfl (fun ls hl => ?_)
    refine lv_iload_n hx hb dX3_acknowledgementsTowards_19 rfl (lv_at hl 0 rfl) ?_
    refine k_if_eq (tgt := 40) hx hb dX3_acknowledgementsTowards_20 (by decide) (by omega) (fun c20 => ?_) (fun c20 => ?_)
    · skip
      refine k_ic (x := 0) hx hb dX3_acknowledgementsTowards_40 (by decide) ?_
      exact k_iret hx hb hr hlk (by rfl) hP hS dX3_acknowledgementsTowards_41
    · exfalso; omega
  · exact absurd rfl c2
set_option maxHeartbeats 4000000 in
set_option maxRecDepth 100000 in
/-- acknowledgeAt -/
theorem c_X3_acknowledgeAt (l : Launch) {g : GG} {a : Nat → Nat} {n : Nat} {A : Nat → Prop} (hA : Ap A a (5 + 7 * n)) (hn6 : n ≤ 6) {s : CS} {p v : Nat} (hs : Sh n s) (hp : p < s 1 0 0) (hv : v ≤ 40) : Met l yX3_acknowledgeAt wsX3_acknowledgeAt ({ frames := 2, cells := 0, slots := 0, locals := 42 }) (pC g [.ref (a 0), .int (nI p), .int (nI v)] (wC g a n s)) (qV g (wC g a n (ackAt s p v)) A) 0 0 A := by
  refine k_start (cc := cX3_acknowledgeAt) (maxL := 3) (ret := none) (by decide) rfl (Nat.le_of_ble_eq_true rfl) ?_
  intro pr en s0 m args below meth cd hx hb hml hr hlk hts hown hin hC hP ls hl
  have hS : va_S A s0.heap s0.heap [] := va_S.rf
  have hfx : CallFix pr m cd cX3_acknowledgeAt 3 s0 args wsX3_acknowledgeAt RX3 := ⟨hx, hb, hml, hown, hts⟩
  have hu1 : ∀ w ∈ wsX10, w.before args s0 = true := fun w h => hts w ((by decide +kernel : ∀ w ∈ wsX10, w ∈ wsX3_acknowledgeAt) w h)
  have hu3 : ∀ w ∈ wsX30, w.before args s0 = true := fun w h => hts w ((by decide +kernel : ∀ w ∈ wsX30, w ∈ wsX3_acknowledgeAt) w h)
  have hl : lv_has ls 3 [(0, .ref (a 0)), (1, .int (nI p)), (2, .int (nI v))] := hl
  have f0 := hs.len
  have f1 := hs.ch p (by omega)
  have f2 := hs.ch (p - 1) (by omega)
  refine lv_aload_n hx hb dX3_acknowledgeAt_0 rfl (lv_at hl 0 rfl) ?_
  refine lv_iload_n hx hb dX3_acknowledgeAt_1 rfl (lv_at hl 1 rfl) ?_
  refine kV_r (r := a (7 * (s 0 0 p) + 5)) (w2 := wC g a n s) (As := [.int (nI p)]) (b := a 0) (rest := []) (A1 := A) hfx (c_X3_nodeAt l hA hn6 (s := s) (p := p) (x := s 0 0 p) (rfl) (by omega) (by omega)) (cwV 1 hts gX3_acknowledgeAt_X3_nodeAt rfl rfl rfl (by decide +kernel) ⟨by decide, by decide⟩) (va_recv hC.1 hP (ci := 3) rfl (wC_obj)) hC hP hS (fun _ h => h) rfl hl.1 rfl (Nat.le_of_ble_eq_true rfl) dX3_acknowledgeAt_2 ⟨Nat.le_of_ble_eq_true rfl, Nat.le_of_ble_eq_true rfl⟩ (fun H locs hP hS _ _ => ?_)
  refine lv_iload_n hx hb dX3_acknowledgeAt_5 rfl (lv_at hl 2 rfl) ?_
  refine va_putN (D := g.1) (v := .int (nI v)) (ty := .int) (C := RX1) (T := TX1) (N := 5) (ci := 1) hx hb hu1 (fun _ h => h) tyX1 tyX1_ok nmX1 hown hC.1 hP hA.D hS _ (wC_node (i := (s 0 0 p)) (by omega)) rfl 3 (by decide) (hC.F (i := 139) (r := RX1) (n := "acknowledged") (d := "I") (by decide +kernel)) (fun _ h9 => h9) rfl (by decide +kernel) rfl rfl (Nat.le_of_ble_eq_true rfl) dX3_acknowledgeAt_6 (fun H locs hP _ hS => ?_)
  have hP : va_P g.1 vwCl (wC g a n (w3 s 6 ((s 0 0 p)) 0 v)) H := P_eq (wp_ackd (i := (s 0 0 p))) hP
  refine lv_aload_n hx hb dX3_acknowledgeAt_9 rfl (lv_at hl 0 rfl) ?_
  refine lv_iload_n hx hb dX3_acknowledgeAt_10 rfl (lv_at hl 1 rfl) ?_
  refine kV_i (r := nI (if p + 1 = s 1 0 0 then 1 else 0)) (w2 := wC g a n (w3 s 6 ((s 0 0 p)) 0 v)) (As := [.int (nI p)]) (b := a 0) (rest := []) (A1 := A) hfx (c_X3_isTailAt l hA hn6 (s := (w3 s 6 ((s 0 0 p)) 0 v)) (p := p) (L := s 1 0 0) (by simp [w3]) (by omega) (by omega)) (cwV 1 hts gX3_acknowledgeAt_X3_isTailAt rfl rfl rfl (by decide +kernel) ⟨by decide, by decide⟩) (va_recv hC.1 hP (ci := 3) rfl (wC_obj)) hC hP hS (fun _ h => h) rfl hl.1 rfl (Nat.le_of_ble_eq_true rfl) dX3_acknowledgeAt_11 ⟨Nat.le_of_ble_eq_true rfl, Nat.le_of_ble_eq_true rfl⟩ (fun H locs hP hS _ _ => ?_)
  have fT11 : (if p + 1 = s 1 0 0 then 1 else 0) ≤ 1 := by split <;> omega
  refine k_if_eq (tgt := 22) hx hb dX3_acknowledgeAt_14 (by decide) (by omega) (fun c14 => ?_) (fun c14 => ?_)
  · skip
    have f3 : ¬ p + 1 = s 1 0 0 := by intro q; simp [q] at c14
    refine lv_iload_n hx hb dX3_acknowledgeAt_22 rfl (lv_at hl 1 rfl) ?_
    refine k_if_le (tgt := 40) hx hb dX3_acknowledgeAt_23 (by decide) (by omega) (fun c23 => ?_) (fun c23 => ?_)
    · skip
      exact k_vret hx hb hr hlk (P_eq (congrArg (wC g a n) (by simp only [ackAt]; (first | rw [if_pos (by omega)] | rw [if_neg (by omega)]); (first | rw [if_pos f3] | rw [if_neg f3]))) hP) hS dX3_acknowledgeAt_40
    · skip
      refine lv_aload_n hx hb dX3_acknowledgeAt_26 rfl (lv_at hl 0 rfl) ?_
      refine lv_iload_n hx hb dX3_acknowledgeAt_27 rfl (lv_at hl 1 rfl) ?_
      refine k_ic (x := 1) hx hb dX3_acknowledgeAt_28 (by decide) ?_
      refine k_isub (x := p) (y := 1) hx hb (by omega) dX3_acknowledgeAt_29 ?_
      refine kV_r (r := a (7 * (s 0 0 (p - 1)) + 5)) (w2 := wC g a n (w3 s 6 ((s 0 0 p)) 0 v)) (As := [.int (nI (p - 1))]) (b := a 0) (rest := []) (A1 := A) hfx (c_X3_nodeAt l hA hn6 (s := (w3 s 6 ((s 0 0 p)) 0 v)) (p := p - 1) (x := s 0 0 (p - 1)) (by simp [w3]) (by omega) (by omega)) (cwV 1 hts gX3_acknowledgeAt_X3_nodeAt rfl rfl rfl (by decide +kernel) ⟨by decide, by decide⟩) (va_recv hC.1 hP (ci := 3) rfl (wC_obj)) hC hP hS (fun _ h => h) rfl hl.1 rfl (Nat.le_of_ble_eq_true rfl) dX3_acknowledgeAt_30 ⟨Nat.le_of_ble_eq_true rfl, Nat.le_of_ble_eq_true rfl⟩ (fun H locs hP hS _ _ => ?_)
      refine va_getN (D := g.1) (C := RX1) (T := TX1) (N := 5) (ci := 1) hx hb hu1 (fun _ h => h) hown hC.1 hP _ (wC_node (i := (s 0 0 (p - 1))) (by omega)) rfl 1 (by decide) (hC.F (i := 88) (r := RX1) (n := "link") (d := "LSplicedChain$Link;") (by decide +kernel)) (fun _ h9 => h9) rfl dX3_acknowledgeAt_33 ?_
      refine lv_iload_n hx hb dX3_acknowledgeAt_36 rfl (lv_at hl 2 rfl) ?_
      refine kV_v (w2 := wC g a n (lput (w3 s 6 ((s 0 0 p)) 0 v) ((s 0 0 (p - 1))) 1 v)) (As := [.int (nI v)]) (b := a (7 * (s 0 0 (p - 1)) + 7)) (rest := []) (A1 := A) hfx (c_X0_putAcknowledgement l hA hn6 (s := (w3 s 6 ((s 0 0 p)) 0 v)) (i := (s 0 0 (p - 1))) (v := v) (by omega) (by first | exact (hs.m6 hv).m4 hv | exact hs.m6 hv)) (cwV 1 hts gX3_acknowledgeAt_X0_putAcknowledgement rfl rfl rfl (by decide +kernel) ⟨by decide, by decide⟩) (va_recv hC.1 hP (ci := 0) rfl (wC_link (i := (s 0 0 (p - 1))) (by omega))) hC hP hS (fun _ h => h) rfl hl.1 rfl (Nat.le_of_ble_eq_true rfl) dX3_acknowledgeAt_37 ⟨Nat.le_of_ble_eq_true rfl, Nat.le_of_ble_eq_true rfl⟩ (fun H locs hP hS _ _ => ?_)
      exact k_vret hx hb hr hlk (P_eq (congrArg (wC g a n) (by simp only [ackAt]; (first | rw [if_pos (by omega)] | rw [if_neg (by omega)]); (first | rw [if_pos f3] | rw [if_neg f3]))) hP) hS dX3_acknowledgeAt_40
  · skip
    have f3 : p + 1 = s 1 0 0 := by rcases Nat.decEq (p + 1) (s 1 0 0) with q | q; simp [q] at c14; exact q
    refine lv_aload_n hx hb dX3_acknowledgeAt_17 rfl (lv_at hl 0 rfl) ?_
    refine lv_iload_n hx hb dX3_acknowledgeAt_18 rfl (lv_at hl 2 rfl) ?_
    refine va_put (D := g.1) (v := .int (nI v)) (ty := .int) (C := RX3) (T := TX3) (N := 6) (ci := 3) hx hb hu3 (fun _ h => h) tyX3 tyX3_ok nmX3 hown hC.1 hP hA.D hS _ (wC_obj) rfl 5 (by decide) (hts (.fieldLink RX3 16 "SplicedChain" "replies" "I") (by decide +kernel)) (fun _ h9 => h9) rfl (by decide +kernel) rfl rfl (Nat.le_of_ble_eq_true rfl) dX3_acknowledgeAt_19 (fun H locs hP _ hS => ?_)
    have hP : va_P g.1 vwCl (wC g a n (w3 (w3 s 6 ((s 0 0 p)) 0 v) 4 0 0 v)) H := P_eq wp_repl hP
    refine lv_iload_n hx hb dX3_acknowledgeAt_22 rfl (lv_at hl 1 rfl) ?_
    refine k_if_le (tgt := 40) hx hb dX3_acknowledgeAt_23 (by decide) (by omega) (fun c23 => ?_) (fun c23 => ?_)
    · skip
      exact k_vret hx hb hr hlk (P_eq (congrArg (wC g a n) (by simp only [ackAt]; (first | rw [if_pos (by omega)] | rw [if_neg (by omega)]); (first | rw [if_pos f3] | rw [if_neg f3]))) hP) hS dX3_acknowledgeAt_40
    · skip
      refine lv_aload_n hx hb dX3_acknowledgeAt_26 rfl (lv_at hl 0 rfl) ?_
      refine lv_iload_n hx hb dX3_acknowledgeAt_27 rfl (lv_at hl 1 rfl) ?_
      refine k_ic (x := 1) hx hb dX3_acknowledgeAt_28 (by decide) ?_
      refine k_isub (x := p) (y := 1) hx hb (by omega) dX3_acknowledgeAt_29 ?_
      refine kV_r (r := a (7 * (s 0 0 (p - 1)) + 5)) (w2 := wC g a n (w3 (w3 s 6 ((s 0 0 p)) 0 v) 4 0 0 v)) (As := [.int (nI (p - 1))]) (b := a 0) (rest := []) (A1 := A) hfx (c_X3_nodeAt l hA hn6 (s := (w3 (w3 s 6 ((s 0 0 p)) 0 v) 4 0 0 v)) (p := p - 1) (x := s 0 0 (p - 1)) (by simp [w3]) (by omega) (by omega)) (cwV 1 hts gX3_acknowledgeAt_X3_nodeAt rfl rfl rfl (by decide +kernel) ⟨by decide, by decide⟩) (va_recv hC.1 hP (ci := 3) rfl (wC_obj)) hC hP hS (fun _ h => h) rfl hl.1 rfl (Nat.le_of_ble_eq_true rfl) dX3_acknowledgeAt_30 ⟨Nat.le_of_ble_eq_true rfl, Nat.le_of_ble_eq_true rfl⟩ (fun H locs hP hS _ _ => ?_)
      refine va_getN (D := g.1) (C := RX1) (T := TX1) (N := 5) (ci := 1) hx hb hu1 (fun _ h => h) hown hC.1 hP _ (wC_node (i := (s 0 0 (p - 1))) (by omega)) rfl 1 (by decide) (hC.F (i := 88) (r := RX1) (n := "link") (d := "LSplicedChain$Link;") (by decide +kernel)) (fun _ h9 => h9) rfl dX3_acknowledgeAt_33 ?_
      refine lv_iload_n hx hb dX3_acknowledgeAt_36 rfl (lv_at hl 2 rfl) ?_
      refine kV_v (w2 := wC g a n (lput (w3 (w3 s 6 ((s 0 0 p)) 0 v) 4 0 0 v) ((s 0 0 (p - 1))) 1 v)) (As := [.int (nI v)]) (b := a (7 * (s 0 0 (p - 1)) + 7)) (rest := []) (A1 := A) hfx (c_X0_putAcknowledgement l hA hn6 (s := (w3 (w3 s 6 ((s 0 0 p)) 0 v) 4 0 0 v)) (i := (s 0 0 (p - 1))) (v := v) (by omega) (by first | exact (hs.m6 hv).m4 hv | exact hs.m6 hv)) (cwV 1 hts gX3_acknowledgeAt_X0_putAcknowledgement rfl rfl rfl (by decide +kernel) ⟨by decide, by decide⟩) (va_recv hC.1 hP (ci := 0) rfl (wC_link (i := (s 0 0 (p - 1))) (by omega))) hC hP hS (fun _ h => h) rfl hl.1 rfl (Nat.le_of_ble_eq_true rfl) dX3_acknowledgeAt_37 ⟨Nat.le_of_ble_eq_true rfl, Nat.le_of_ble_eq_true rfl⟩ (fun H locs hP hS _ _ => ?_)
      exact k_vret hx hb hr hlk (P_eq (congrArg (wC g a n) (by simp only [ackAt]; (first | rw [if_pos (by omega)] | rw [if_neg (by omega)]); (first | rw [if_pos f3] | rw [if_neg f3]))) hP) hS dX3_acknowledgeAt_40
set_option maxHeartbeats 4000000 in
set_option maxRecDepth 100000 in
/-- applyAt -/
theorem c_X3_applyAt (l : Launch) {g : GG} {a : Nat → Nat} {n : Nat} {A : Nat → Prop} (hA : Ap A a (5 + 7 * n)) (hn6 : n ≤ 6) {s : CS} {p v : Nat} (hs : Sh n s) (hp : p < s 1 0 0) (hv : v ≤ 40) : Met l yX3_applyAt wsX3_applyAt ({ frames := 3, cells := 0, slots := 0, locals := 64 }) (pC g [.ref (a 0), .int (nI p), .int (nI v)] (wC g a n s)) (qV g (wC g a n (applyAt s p v)) A) 0 0 A := by
  refine k_start (cc := cX3_applyAt) (maxL := 4) (ret := none) (by decide) rfl (Nat.le_of_ble_eq_true rfl) ?_
  intro pr en s0 m args below meth cd hx hb hml hr hlk hts hown hin hC hP ls hl
  have hS : va_S A s0.heap s0.heap [] := va_S.rf
  have hfx : CallFix pr m cd cX3_applyAt 4 s0 args wsX3_applyAt RX3 := ⟨hx, hb, hml, hown, hts⟩
  have hu1 : ∀ w ∈ wsX10, w.before args s0 = true := fun w h => hts w ((by decide +kernel : ∀ w ∈ wsX10, w ∈ wsX3_applyAt) w h)
  have hu3 : ∀ w ∈ wsX30, w.before args s0 = true := fun w h => hts w ((by decide +kernel : ∀ w ∈ wsX30, w ∈ wsX3_applyAt) w h)
  have hl : lv_has ls 4 [(0, .ref (a 0)), (1, .int (nI p)), (2, .int (nI v))] := hl
  have f0 := hs.len
  have f1 := hs.ch p (by omega)
  have f2 := hs.key v hv
  refine lv_aload_n hx hb dX3_applyAt_0 rfl (lv_at hl 0 rfl) ?_
  refine lv_iload_n hx hb dX3_applyAt_1 rfl (lv_at hl 1 rfl) ?_
  refine kV_r (r := a (7 * (s 0 0 p) + 5)) (w2 := wC g a n s) (As := [.int (nI p)]) (b := a 0) (rest := []) (A1 := A) hfx (c_X3_nodeAt l hA hn6 (s := s) (p := p) (x := s 0 0 p) (rfl) (by omega) (by omega)) (cwV 1 hts gX3_applyAt_X3_nodeAt rfl rfl rfl (by decide +kernel) ⟨by decide, by decide⟩) (va_recv hC.1 hP (ci := 3) rfl (wC_obj)) hC hP hS (fun _ h => h) rfl hl.1 rfl (Nat.le_of_ble_eq_true rfl) dX3_applyAt_2 ⟨Nat.le_of_ble_eq_true rfl, Nat.le_of_ble_eq_true rfl⟩ (fun H locs hP hS _ _ => ?_)
  refine lv_astore_n (lv' := [(3, .ref (a (7 * (s 0 0 p) + 5))), (0, .ref (a 0)), (1, .int (nI p)), (2, .int (nI v))]) hx hb dX3_applyAt_5 rfl hl (by decide) rfl (fun ls hl => ?_)
  refine lv_aload_n hx hb dX3_applyAt_6 rfl (lv_at hl 0 rfl) ?_
  refine lv_iload_n hx hb dX3_applyAt_7 rfl (lv_at hl 3 rfl) ?_
  refine va_putN (D := g.1) (v := .int (nI v)) (ty := .int) (C := RX1) (T := TX1) (N := 5) (ci := 1) hx hb hu1 (fun _ h => h) tyX1 tyX1_ok nmX1 hown hC.1 hP hA.D hS _ (wC_node (i := (s 0 0 p)) (by omega)) rfl 2 (by decide) (hC.F (i := 52) (r := RX1) (n := "history") (d := "I") (by decide +kernel)) (fun _ h9 => h9) rfl (by decide +kernel) rfl rfl (Nat.le_of_ble_eq_true rfl) dX3_applyAt_8 (fun H locs hP _ hS => ?_)
  have hP : va_P g.1 vwCl (wC g a n (w3 s 5 ((s 0 0 p)) 0 v)) H := P_eq (wp_hist (i := (s 0 0 p))) hP
  refine lv_aload_n hx hb dX3_applyAt_11 rfl (lv_at hl 0 rfl) ?_
  refine va_getN (D := g.1) (C := RX1) (T := TX1) (N := 5) (ci := 1) hx hb hu1 (fun _ h => h) hown hC.1 hP _ (wC_node (i := (s 0 0 p)) (by omega)) rfl 0 (by decide) (hC.F (i := 66) (r := RX1) (n := "values") (d := "[I") (by decide +kernel)) (fun _ h9 => h9) rfl dX3_applyAt_12 ?_
  refine lv_aload_n hx hb dX3_applyAt_15 rfl (lv_at hl 1 rfl) ?_
  refine va_get (D := g.1) (C := RX3) (T := TX3) (N := 6) (ci := 3) hx hb hu3 (fun _ h => h) hown hC.1 hP _ (wC_obj) rfl 3 (by decide) (hts (.fieldLink RX3 9 "SplicedChain" "keyOfUpdate" "[I") (by decide +kernel)) (fun _ h9 => h9) rfl dX3_applyAt_16 ?_
  refine lv_iload_n hx hb dX3_applyAt_19 rfl (lv_at hl 3 rfl) ?_
  refine k_iald hx hb hC hP _ (wC_keys) (j := v) (by omega) (by omega) dX3_applyAt_20 ?_
  refine k_as (x := s 2 0 v) (by simp [w3]) ?_
  refine lv_aload_n hx hb dX3_applyAt_21 rfl (lv_at hl 1 rfl) ?_
  refine va_get (D := g.1) (C := RX3) (T := TX3) (N := 6) (ci := 3) hx hb hu3 (fun _ h => h) hown hC.1 hP _ (wC_obj) rfl 4 (by decide) (hts (.fieldLink RX3 13 "SplicedChain" "valueOfUpdate" "[I") (by decide +kernel)) (fun _ h9 => h9) rfl dX3_applyAt_22 ?_
  refine lv_iload_n hx hb dX3_applyAt_25 rfl (lv_at hl 3 rfl) ?_
  refine k_iald hx hb hC hP _ (wC_vs) (j := v) (by omega) (by omega) dX3_applyAt_26 ?_
  refine k_as (x := s 3 0 v) (by simp [w3]) ?_
  refine k_iast hx hb hC hP hA.D hS _ (wC_vals (i := (s 0 0 p)) (by omega)) (j := s 2 0 v) (by omega) (by omega) dX3_applyAt_27 (wp_vals (i := (s 0 0 p))) (fun H locs hP hS => ?_)
  refine lv_aload_n hx hb dX3_applyAt_28 rfl (lv_at hl 1 rfl) ?_
  refine lv_iload_n hx hb dX3_applyAt_29 rfl (lv_at hl 2 rfl) ?_
  refine kV_i (r := nI (if p + 1 = s 1 0 0 then 1 else 0)) (w2 := wC g a n (w3 (w3 s 5 ((s 0 0 p)) 0 v) 12 ((s 0 0 p)) (s 2 0 v) (s 3 0 v))) (As := [.int (nI p)]) (b := a 0) (rest := []) (A1 := A) hfx (c_X3_isTailAt l hA hn6 (s := (w3 (w3 s 5 ((s 0 0 p)) 0 v) 12 ((s 0 0 p)) (s 2 0 v) (s 3 0 v))) (p := p) (L := s 1 0 0) (by simp [w3]) (by omega) (by omega)) (cwV 1 hts gX3_applyAt_X3_isTailAt rfl rfl rfl (by decide +kernel) ⟨by decide, by decide⟩) (va_recv hC.1 hP (ci := 3) rfl (wC_obj)) hC hP hS (fun _ h => h) rfl hl.1 rfl (Nat.le_of_ble_eq_true rfl) dX3_applyAt_30 ⟨Nat.le_of_ble_eq_true rfl, Nat.le_of_ble_eq_true rfl⟩ (fun H locs hP hS _ _ => ?_)
  have fT30 : (if p + 1 = s 1 0 0 then 1 else 0) ≤ 1 := by split <;> omega
  refine k_if_eq (tgt := 45) hx hb dX3_applyAt_33 (by decide) (by omega) (fun c33 => ?_) (fun c33 => ?_)
  · skip
    have f3 : ¬ p + 1 = s 1 0 0 := by intro q; simp [q] at c33
    refine lv_aload_n hx hb dX3_applyAt_45 rfl (lv_at hl 0 rfl) ?_
    refine va_getN (D := g.1) (C := RX1) (T := TX1) (N := 5) (ci := 1) hx hb hu1 (fun _ h => h) hown hC.1 hP _ (wC_node (i := (s 0 0 p)) (by omega)) rfl 1 (by decide) (hC.F (i := 88) (r := RX1) (n := "link") (d := "LSplicedChain$Link;") (by decide +kernel)) (fun _ h9 => h9) rfl dX3_applyAt_46 ?_
    refine lv_iload_n hx hb dX3_applyAt_49 rfl (lv_at hl 3 rfl) ?_
    refine kV_v (w2 := wC g a n (lput (w3 (w3 s 5 ((s 0 0 p)) 0 v) 12 ((s 0 0 p)) (s 2 0 v) (s 3 0 v)) ((s 0 0 p)) 0 v)) (As := [.int (nI v)]) (b := a (7 * (s 0 0 p) + 7)) (rest := []) (A1 := A) hfx (c_X0_putUpdate l hA hn6 (s := (w3 (w3 s 5 ((s 0 0 p)) 0 v) 12 ((s 0 0 p)) (s 2 0 v) (s 3 0 v))) (i := (s 0 0 p)) (v := v) (by omega) ((hs.m5 hv).m12)) (cwV 1 hts gX3_applyAt_X0_putUpdate rfl rfl rfl (by decide +kernel) ⟨by decide, by decide⟩) (va_recv hC.1 hP (ci := 0) rfl (wC_link (i := (s 0 0 p)) (by omega))) hC hP hS (fun _ h => h) rfl hl.1 rfl (Nat.le_of_ble_eq_true rfl) dX3_applyAt_50 ⟨Nat.le_of_ble_eq_true rfl, Nat.le_of_ble_eq_true rfl⟩ (fun H locs hP hS _ _ => ?_)
    exact k_vret hx hb hr hlk (P_eq (congrArg (wC g a n) (by simp only [applyAt]; first | rw [if_pos f3] | rw [if_neg f3])) hP) hS dX3_applyAt_53
  · skip
    have f3 : p + 1 = s 1 0 0 := by rcases Nat.decEq (p + 1) (s 1 0 0) with q | q; simp [q] at c33; exact q
    refine lv_aload_n hx hb dX3_applyAt_36 rfl (lv_at hl 1 rfl) ?_
    refine lv_iload_n hx hb dX3_applyAt_37 rfl (lv_at hl 2 rfl) ?_
    refine lv_iload_n hx hb dX3_applyAt_38 rfl (lv_at hl 3 rfl) ?_
    refine kV_v (w2 := wC g a n (ackAt (w3 (w3 s 5 ((s 0 0 p)) 0 v) 12 ((s 0 0 p)) (s 2 0 v) (s 3 0 v)) p v)) (As := [.int (nI p), .int (nI v)]) (b := a 0) (rest := []) (A1 := A) hfx (c_X3_acknowledgeAt l hA hn6 (s := (w3 (w3 s 5 ((s 0 0 p)) 0 v) 12 ((s 0 0 p)) (s 2 0 v) (s 3 0 v))) (p := p) (v := v) ((hs.m5 hv).m12) (by simp [w3]; omega) (hv)) (cwV 2 hts gX3_applyAt_X3_acknowledgeAt rfl rfl rfl (by decide +kernel) ⟨by decide, by decide⟩) (va_recv hC.1 hP (ci := 3) rfl (wC_obj)) hC hP hS (fun _ h => h) rfl hl.1 rfl (Nat.le_of_ble_eq_true rfl) dX3_applyAt_39 ⟨Nat.le_of_ble_eq_true rfl, Nat.le_of_ble_eq_true rfl⟩ (fun H locs hP hS _ _ => ?_)
    refine lv_goto (tgt := 53) hx hb dX3_applyAt_42 (by decide) ?_
    exact k_vret hx hb hr hlk (P_eq (congrArg (wC g a n) (by simp only [applyAt]; first | rw [if_pos f3] | rw [if_neg f3])) hP) hS dX3_applyAt_53
set_option maxHeartbeats 4000000 in
set_option maxRecDepth 100000 in
/-- closeLinksAt -/
theorem c_X3_closeLinksAt (l : Launch) {g : GG} {a : Nat → Nat} {n : Nat} {A : Nat → Prop} (hA : Ap A a (5 + 7 * n)) (hn6 : n ≤ 6) {s : CS} {p : Nat} (hs : Sh n s) (hp : p < s 1 0 0) : Met l yX3_closeLinksAt wsX3_closeLinksAt ({ frames := 2, cells := 0, slots := 0, locals := 40 }) (pC g [.ref (a 0), .int (nI p)] (wC g a n s)) (qV g (wC g a n (if 0 < p then lclose (lclose s (s 0 0 p)) (s 0 0 (p - 1)) else lclose s (s 0 0 p))) A) 0 0 A := by
  refine k_start (cc := cX3_closeLinksAt) (maxL := 2) (ret := none) (by decide) rfl (Nat.le_of_ble_eq_true rfl) ?_
  intro pr en s0 m args below meth cd hx hb hml hr hlk hts hown hin hC hP ls hl
  have hS : va_S A s0.heap s0.heap [] := va_S.rf
  have hfx : CallFix pr m cd cX3_closeLinksAt 2 s0 args wsX3_closeLinksAt RX3 := ⟨hx, hb, hml, hown, hts⟩
  have hu1 : ∀ w ∈ wsX10, w.before args s0 = true := fun w h => hts w ((by decide +kernel : ∀ w ∈ wsX10, w ∈ wsX3_closeLinksAt) w h)
  have hl : lv_has ls 2 [(0, .ref (a 0)), (1, .int (nI p))] := hl
  have f0 := hs.len
  have f1 := hs.ch p (by omega)
  have f2 := hs.ch (p - 1) (by omega)
  have fm : ¬ nI p = -1 := nI_m1 (by omega)
  refine lv_iload_n hx hb dX3_closeLinksAt_0 rfl (lv_at hl 1 rfl) ?_
  refine lv_iconst (v := -1) hx hb dX3_closeLinksAt_1 (by decide) ?_
  refine lv_icmp_ne (tgt := 6) hx hb dX3_closeLinksAt_2 (by decide) (fun c2 => ?_) (fun c2 => ?_)
  · skip
    refine lv_aload_n hx hb dX3_closeLinksAt_6 rfl (lv_at hl 0 rfl) ?_
    refine lv_iload_n hx hb dX3_closeLinksAt_7 rfl (lv_at hl 1 rfl) ?_
    refine kV_r (r := a (7 * (s 0 0 p) + 5)) (w2 := wC g a n s) (As := [.int (nI p)]) (b := a 0) (rest := []) (A1 := A) hfx (c_X3_nodeAt l hA hn6 (s := s) (p := p) (x := s 0 0 p) (rfl) (by omega) (by omega)) (cwV 1 hts gX3_closeLinksAt_X3_nodeAt rfl rfl rfl (by decide +kernel) ⟨by decide, by decide⟩) (va_recv hC.1 hP (ci := 3) rfl (wC_obj)) hC hP hS (fun _ h => h) rfl hl.1 rfl (Nat.le_of_ble_eq_true rfl) dX3_closeLinksAt_8 ⟨Nat.le_of_ble_eq_true rfl, Nat.le_of_ble_eq_true rfl⟩ (fun H locs hP hS _ _ => ?_)
    refine va_getN (D := g.1) (C := RX1) (T := TX1) (N := 5) (ci := 1) hx hb hu1 (fun _ h => h) hown hC.1 hP _ (wC_node (i := (s 0 0 p)) (by omega)) rfl 1 (by decide) (hC.F (i := 88) (r := RX1) (n := "link") (d := "LSplicedChain$Link;") (by decide +kernel)) (fun _ h9 => h9) rfl dX3_closeLinksAt_11 ?_
    refine kV_v (w2 := wC g a n (lclose s ((s 0 0 p)))) (As := []) (b := a (7 * (s 0 0 p) + 7)) (rest := []) (A1 := A) hfx (c_X0_close l hA hn6 (s := s) (i := (s 0 0 p)) (by omega)) (cwV 0 hts gX3_closeLinksAt_X0_close rfl rfl rfl (by decide +kernel) ⟨by decide, by decide⟩) (va_recv hC.1 hP (ci := 0) rfl (wC_link (i := (s 0 0 p)) (by omega))) hC hP hS (fun _ h => h) rfl hl.1 rfl (Nat.le_of_ble_eq_true rfl) dX3_closeLinksAt_14 ⟨Nat.le_of_ble_eq_true rfl, Nat.le_of_ble_eq_true rfl⟩ (fun H locs hP hS _ _ => ?_)
    refine lv_iload_n hx hb dX3_closeLinksAt_17 rfl (lv_at hl 1 rfl) ?_
    refine k_if_le (tgt := 34) hx hb dX3_closeLinksAt_18 (by decide) (by omega) (fun c18 => ?_) (fun c18 => ?_)
    · skip
      exact k_vret hx hb hr hlk (P_eq (congrArg (wC g a n) (by first | rw [if_pos (by omega)] | rw [if_neg (by omega)])) hP) hS dX3_closeLinksAt_34
    · skip
      refine lv_aload_n hx hb dX3_closeLinksAt_21 rfl (lv_at hl 0 rfl) ?_
      refine lv_iload_n hx hb dX3_closeLinksAt_22 rfl (lv_at hl 1 rfl) ?_
      refine k_ic (x := 1) hx hb dX3_closeLinksAt_23 (by decide) ?_
      refine k_isub (x := p) (y := 1) hx hb (by omega) dX3_closeLinksAt_24 ?_
      refine kV_r (r := a (7 * (s 0 0 (p - 1)) + 5)) (w2 := wC g a n (lclose s ((s 0 0 p)))) (As := [.int (nI (p - 1))]) (b := a 0) (rest := []) (A1 := A) hfx (c_X3_nodeAt l hA hn6 (s := (lclose s ((s 0 0 p)))) (p := p - 1) (x := s 0 0 (p - 1)) (by simp [lclose, w3]) (by omega) (by omega)) (cwV 1 hts gX3_closeLinksAt_X3_nodeAt rfl rfl rfl (by decide +kernel) ⟨by decide, by decide⟩) (va_recv hC.1 hP (ci := 3) rfl (wC_obj)) hC hP hS (fun _ h => h) rfl hl.1 rfl (Nat.le_of_ble_eq_true rfl) dX3_closeLinksAt_25 ⟨Nat.le_of_ble_eq_true rfl, Nat.le_of_ble_eq_true rfl⟩ (fun H locs hP hS _ _ => ?_)
      refine va_getN (D := g.1) (C := RX1) (T := TX1) (N := 5) (ci := 1) hx hb hu1 (fun _ h => h) hown hC.1 hP _ (wC_node (i := (s 0 0 (p - 1))) (by omega)) rfl 1 (by decide) (hC.F (i := 88) (r := RX1) (n := "link") (d := "LSplicedChain$Link;") (by decide +kernel)) (fun _ h9 => h9) rfl dX3_closeLinksAt_28 ?_
      refine kV_v (w2 := wC g a n (lclose (lclose s ((s 0 0 p))) ((s 0 0 (p - 1))))) (As := []) (b := a (7 * (s 0 0 (p - 1)) + 7)) (rest := []) (A1 := A) hfx (c_X0_close l hA hn6 (s := (lclose s ((s 0 0 p)))) (i := (s 0 0 (p - 1))) (by omega)) (cwV 0 hts gX3_closeLinksAt_X0_close rfl rfl rfl (by decide +kernel) ⟨by decide, by decide⟩) (va_recv hC.1 hP (ci := 0) rfl (wC_link (i := (s 0 0 (p - 1))) (by omega))) hC hP hS (fun _ h => h) rfl hl.1 rfl (Nat.le_of_ble_eq_true rfl) dX3_closeLinksAt_31 ⟨Nat.le_of_ble_eq_true rfl, Nat.le_of_ble_eq_true rfl⟩ (fun H locs hP hS _ _ => ?_)
      exact k_vret hx hb hr hlk (P_eq (congrArg (wC g a n) (by first | rw [if_pos (by omega)] | rw [if_neg (by omega)])) hP) hS dX3_closeLinksAt_34
  · exact absurd c2 fm
set_option maxHeartbeats 4000000 in
set_option maxRecDepth 100000 in
/-- closeLinksAt nowhere -/
theorem c_X3_closeLinksAt_no (l : Launch) {g : GG} {a : Nat → Nat} {n : Nat} {A : Nat → Prop} (hA : Ap A a (5 + 7 * n)) (hn6 : n ≤ 6) {s : CS}  : Met l yX3_closeLinksAt wsX3_closeLinksAt ({ frames := 2, cells := 0, slots := 0, locals := 40 }) (pC g [.ref (a 0), .int (-1)] (wC g a n s)) (qV g (wC g a n s) A) 0 0 A := by
  refine k_start (cc := cX3_closeLinksAt) (maxL := 2) (ret := none) (by decide) rfl (Nat.le_of_ble_eq_true rfl) ?_
  intro pr en s0 m args below meth cd hx hb hml hr hlk hts hown hin hC hP ls hl
  have hS : va_S A s0.heap s0.heap [] := va_S.rf
  have hfx : CallFix pr m cd cX3_closeLinksAt 2 s0 args wsX3_closeLinksAt RX3 := ⟨hx, hb, hml, hown, hts⟩
  have hl : lv_has ls 2 [(0, .ref (a 0)), (1, .int (-1))] := hl
  refine lv_iload_n hx hb dX3_closeLinksAt_0 rfl (lv_at hl 1 rfl) ?_
  refine lv_iconst (v := -1) hx hb dX3_closeLinksAt_1 (by decide) ?_
  refine lv_icmp_ne (tgt := 6) hx hb dX3_closeLinksAt_2 (by decide) (fun c2 => ?_) (fun c2 => ?_)
  · exact absurd rfl c2
  · skip
    exact k_vret hx hb hr hlk hP hS dX3_closeLinksAt_5
set_option maxHeartbeats 4000000 in
set_option maxRecDepth 100000 in
/-- canResyncAt -/
theorem c_X3_canResyncAt (l : Launch) {g : GG} {a : Nat → Nat} {n : Nat} {A : Nat → Prop} (hA : Ap A a (5 + 7 * n)) (hn6 : n ≤ 6) {s : CS} {p : Nat} (hs : Sh n s) (hp : p < s 1 0 0) : Met l yX3_canResyncAt wsX3_canResyncAt ({ frames := 1, cells := 0, slots := 0, locals := 21 }) (pC g [.ref (a 0), .int (nI p)] (wC g a n s)) (qI g (nI (if p + 1 ≠ s 1 0 0 ∧ s 7 (s 0 0 p) 0 = 0 ∧ s 7 (s 0 0 (p + 1)) 0 = 0 ∧ s 8 (s 0 0 p) 0 = 0 then 1 else 0)) (wC g a n s) A) 0 0 A := by
  refine k_start (cc := cX3_canResyncAt) (maxL := 3) (ret := (some .boolean)) (by decide) rfl (Nat.le_of_ble_eq_true rfl) ?_
  intro pr en s0 m args below meth cd hx hb hml hr hlk hts hown hin hC hP ls hl
  have hS : va_S A s0.heap s0.heap [] := va_S.rf
  have hfx : CallFix pr m cd cX3_canResyncAt 3 s0 args wsX3_canResyncAt RX3 := ⟨hx, hb, hml, hown, hts⟩
  have hu1 : ∀ w ∈ wsX10, w.before args s0 = true := fun w h => hts w ((by decide +kernel : ∀ w ∈ wsX10, w ∈ wsX3_canResyncAt) w h)
  have hu0 : ∀ w ∈ wsX00, w.before args s0 = true := fun w h => hts w ((by decide +kernel : ∀ w ∈ wsX00, w ∈ wsX3_canResyncAt) w h)
  have hl : lv_has ls 3 [(0, .ref (a 0)), (1, .int (nI p))] := hl
  have f0 := hs.len
  have f1 := hs.ch p (by omega)
  have f4 := hs.nd _ f1
  have fm : ¬ nI p = -1 := nI_m1 (by omega)
  refine lv_iload_n hx hb dX3_canResyncAt_0 rfl (lv_at hl 1 rfl) ?_
  refine lv_iconst (v := -1) hx hb dX3_canResyncAt_1 (by decide) ?_
  refine lv_icmp_eq (tgt := 13) hx hb dX3_canResyncAt_2 (by decide) (fun c2 => ?_) (fun c2 => ?_)
  · exact absurd c2 fm
  · skip
    refine lv_aload_n hx hb dX3_canResyncAt_5 rfl (lv_at hl 0 rfl) ?_
    refine lv_iload_n hx hb dX3_canResyncAt_6 rfl (lv_at hl 1 rfl) ?_
    refine kV_i (r := nI (if p + 1 = s 1 0 0 then 1 else 0)) (w2 := wC g a n s) (As := [.int (nI p)]) (b := a 0) (rest := []) (A1 := A) hfx (c_X3_isTailAt l hA hn6 (s := s) (p := p) (L := s 1 0 0) (rfl) (by omega) (by omega)) (cwV 1 hts gX3_canResyncAt_X3_isTailAt rfl rfl rfl (by decide +kernel) ⟨by decide, by decide⟩) (va_recv hC.1 hP (ci := 3) rfl (wC_obj)) hC hP hS (fun _ h => h) rfl hl.1 rfl (Nat.le_of_ble_eq_true rfl) dX3_canResyncAt_7 ⟨Nat.le_of_ble_eq_true rfl, Nat.le_of_ble_eq_true rfl⟩ (fun H locs hP hS _ _ => ?_)
    have fT7 : (if p + 1 = s 1 0 0 then 1 else 0) ≤ 1 := by split <;> omega
    refine k_if_eq (tgt := 15) hx hb dX3_canResyncAt_10 (by decide) (by omega) (fun c10 => ?_) (fun c10 => ?_)
    · skip
      have f3 : ¬ p + 1 = s 1 0 0 := by intro q; simp [q] at c10
      refine lv_aload_n hx hb dX3_canResyncAt_15 rfl (lv_at hl 0 rfl) ?_
      refine lv_iload_n hx hb dX3_canResyncAt_16 rfl (lv_at hl 1 rfl) ?_
      refine kV_r (r := a (7 * (s 0 0 p) + 5)) (w2 := wC g a n s) (As := [.int (nI p)]) (b := a 0) (rest := []) (A1 := A) hfx (c_X3_nodeAt l hA hn6 (s := s) (p := p) (x := s 0 0 p) (rfl) (by omega) (by omega)) (cwV 1 hts gX3_canResyncAt_X3_nodeAt rfl rfl rfl (by decide +kernel) ⟨by decide, by decide⟩) (va_recv hC.1 hP (ci := 3) rfl (wC_obj)) hC hP hS (fun _ h => h) rfl hl.1 rfl (Nat.le_of_ble_eq_true rfl) dX3_canResyncAt_17 ⟨Nat.le_of_ble_eq_true rfl, Nat.le_of_ble_eq_true rfl⟩ (fun H locs hP hS _ _ => ?_)
      refine lv_astore_n (lv' := [(2, .ref (a (7 * (s 0 0 p) + 5))), (0, .ref (a 0)), (1, .int (nI p))]) hx hb dX3_canResyncAt_20 rfl hl (by decide) rfl (fun ls hl => ?_)
      refine lv_aload_n hx hb dX3_canResyncAt_21 rfl (lv_at hl 0 rfl) ?_
      refine va_getN (D := g.1) (C := RX1) (T := TX1) (N := 5) (ci := 1) hx hb hu1 (fun _ h => h) hown hC.1 hP _ (wC_node (i := (s 0 0 p)) (by omega)) rfl 4 (by decide) (hC.F (i := 48) (r := RX1) (n := "failed") (d := "Z") (by decide +kernel)) (fun _ h9 => h9) rfl dX3_canResyncAt_22 ?_
      refine k_if_ne (tgt := 55) hx hb dX3_canResyncAt_25 (by decide) (by omega) (fun c25 => ?_) (fun c25 => ?_)
      · skip
        refine k_ic (x := 0) hx hb dX3_canResyncAt_55 (by decide) ?_
        exact k_zret hx hb hr hlk (by first | rw [if_pos ⟨by omega, by omega, by omega, by omega⟩] | rw [if_neg (by omega)]) (by decide) hP hS dX3_canResyncAt_56
      · skip
        have f5 := hs.ch (p + 1) (by omega)
        have f6 := hs.nd _ f5
        refine lv_aload_n hx hb dX3_canResyncAt_28 rfl (lv_at hl 1 rfl) ?_
        refine lv_iload_n hx hb dX3_canResyncAt_29 rfl (lv_at hl 2 rfl) ?_
        refine k_ic (x := 1) hx hb dX3_canResyncAt_30 (by decide) ?_
        refine k_iadd (x := p) (y := 1) hx hb dX3_canResyncAt_31 ?_
        refine kV_r (r := a (7 * (s 0 0 (p + 1)) + 5)) (w2 := wC g a n s) (As := [.int (nI (p + 1))]) (b := a 0) (rest := []) (A1 := A) hfx (c_X3_nodeAt l hA hn6 (s := s) (p := p + 1) (x := s 0 0 (p + 1)) (rfl) (by omega) (by omega)) (cwV 1 hts gX3_canResyncAt_X3_nodeAt rfl rfl rfl (by decide +kernel) ⟨by decide, by decide⟩) (va_recv hC.1 hP (ci := 3) rfl (wC_obj)) hC hP hS (fun _ h => h) rfl hl.1 rfl (Nat.le_of_ble_eq_true rfl) dX3_canResyncAt_32 ⟨Nat.le_of_ble_eq_true rfl, Nat.le_of_ble_eq_true rfl⟩ (fun H locs hP hS _ _ => ?_)
        refine va_getN (D := g.1) (C := RX1) (T := TX1) (N := 5) (ci := 1) hx hb hu1 (fun _ h => h) hown hC.1 hP _ (wC_node (i := (s 0 0 (p + 1))) (by omega)) rfl 4 (by decide) (hC.F (i := 48) (r := RX1) (n := "failed") (d := "Z") (by decide +kernel)) (fun _ h9 => h9) rfl dX3_canResyncAt_35 ?_
        refine k_if_ne (tgt := 55) hx hb dX3_canResyncAt_38 (by decide) (by omega) (fun c38 => ?_) (fun c38 => ?_)
        · skip
          refine k_ic (x := 0) hx hb dX3_canResyncAt_55 (by decide) ?_
          exact k_zret hx hb hr hlk (by first | rw [if_pos ⟨by omega, by omega, by omega, by omega⟩] | rw [if_neg (by omega)]) (by decide) hP hS dX3_canResyncAt_56
        · skip
          refine lv_aload_n hx hb dX3_canResyncAt_41 rfl (lv_at hl 0 rfl) ?_
          refine va_getN (D := g.1) (C := RX1) (T := TX1) (N := 5) (ci := 1) hx hb hu1 (fun _ h => h) hown hC.1 hP _ (wC_node (i := (s 0 0 p)) (by omega)) rfl 1 (by decide) (hC.F (i := 88) (r := RX1) (n := "link") (d := "LSplicedChain$Link;") (by decide +kernel)) (fun _ h9 => h9) rfl dX3_canResyncAt_42 ?_
          refine va_getN (D := g.1) (C := RX0) (T := TX0) (N := 3) (ci := 0) hx hb hu0 (fun _ h => h) hown hC.1 hP _ (wC_link (i := (s 0 0 p)) (by omega)) rfl 2 (by decide) (hC.F (i := 136) (r := RX0) (n := "open") (d := "Z") (by decide +kernel)) (fun _ h9 => h9) rfl dX3_canResyncAt_45 ?_
          refine k_if_ne (tgt := 55) hx hb dX3_canResyncAt_48 (by decide) (by omega) (fun c48 => ?_) (fun c48 => ?_)
          · skip
            refine k_ic (x := 0) hx hb dX3_canResyncAt_55 (by decide) ?_
            exact k_zret hx hb hr hlk (by first | rw [if_pos ⟨by omega, by omega, by omega, by omega⟩] | rw [if_neg (by omega)]) (by decide) hP hS dX3_canResyncAt_56
          · skip
            refine k_ic (x := 1) hx hb dX3_canResyncAt_51 (by decide) ?_
            refine lv_goto (tgt := 56) hx hb dX3_canResyncAt_52 (by decide) ?_
            exact k_zret hx hb hr hlk (by first | rw [if_pos ⟨by omega, by omega, by omega, by omega⟩] | rw [if_neg (by omega)]) (by decide) hP hS dX3_canResyncAt_56
    · skip
      have f3 : p + 1 = s 1 0 0 := by rcases Nat.decEq (p + 1) (s 1 0 0) with q | q; simp [q] at c10; exact q
      refine k_ic (x := 0) hx hb dX3_canResyncAt_13 (by decide) ?_
      exact k_zret hx hb hr hlk (by rw [if_neg (by omega)]) (by decide) hP hS dX3_canResyncAt_14
set_option maxHeartbeats 4000000 in
set_option maxRecDepth 100000 in
/-- canResyncAt nowhere -/
theorem c_X3_canResyncAt_no (l : Launch) {g : GG} {a : Nat → Nat} {n : Nat} {A : Nat → Prop} (hA : Ap A a (5 + 7 * n)) (hn6 : n ≤ 6) {s : CS}  : Met l yX3_canResyncAt wsX3_canResyncAt ({ frames := 1, cells := 0, slots := 0, locals := 21 }) (pC g [.ref (a 0), .int (-1)] (wC g a n s)) (qI g (nI 0) (wC g a n s) A) 0 0 A := by
  refine k_start (cc := cX3_canResyncAt) (maxL := 3) (ret := (some .boolean)) (by decide) rfl (Nat.le_of_ble_eq_true rfl) ?_
  intro pr en s0 m args below meth cd hx hb hml hr hlk hts hown hin hC hP ls hl
  have hS : va_S A s0.heap s0.heap [] := va_S.rf
  have hfx : CallFix pr m cd cX3_canResyncAt 3 s0 args wsX3_canResyncAt RX3 := ⟨hx, hb, hml, hown, hts⟩
  have hl : lv_has ls 3 [(0, .ref (a 0)), (1, .int (-1))] := hl
  refine lv_iload_n hx hb dX3_canResyncAt_0 rfl (lv_at hl 1 rfl) ?_
  refine lv_iconst (v := -1) hx hb dX3_canResyncAt_1 (by decide) ?_
  refine lv_icmp_eq (tgt := 13) hx hb dX3_canResyncAt_2 (by decide) (fun c2 => ?_) (fun c2 => ?_)
  · skip
    refine k_ic (x := 0) hx hb dX3_canResyncAt_13 (by decide) ?_
    exact k_zret hx hb hr hlk (by rfl) (by decide) hP hS dX3_canResyncAt_14
  · exact absurd rfl c2
end
section
/-- the tail acknowledges j updates, v + 1 the first -/
def ackN (s : CS) (p v : Nat) : Nat → CS
  | 0 => s
  | j + 1 => ackAt (ackN s p v j) p (v + j + 1)
theorem lput_c {s : CS} {i w v c i' k' : Nat} (h : c ≠ 10 ∧ c ≠ 11) : lput s i w v c i' k' = s c i' k' := by
  unfold lput
  split
  · rfl
  · unfold qput; split
    · simp [w3, h.1, h.2]
    · rfl
theorem ackAt_c {s : CS} {p v c i k : Nat} (h : c ≠ 10 ∧ c ≠ 11 ∧ c ≠ 6 ∧ c ≠ 4) : ackAt s p v c i k = s c i k := by
  have e : (if p + 1 = s 1 0 0 then w3 (w3 s 6 (s 0 0 p) 0 v) 4 0 0 v else w3 s 6 (s 0 0 p) 0 v) c i k = s c i k := by
    split <;> simp [w3, h.2.2.1, h.2.2.2]
  unfold ackAt
  split
  · rw [lput_c ⟨h.1, h.2.1⟩]; exact e
  · exact e
theorem ackN_c {s : CS} {p v c i k : Nat} (h : c ≠ 10 ∧ c ≠ 11 ∧ c ≠ 6 ∧ c ≠ 4) : ∀ j, ackN s p v j c i k = s c i k
  | 0 => rfl
  | j + 1 => by rw [ackN, ackAt_c h]; exact ackN_c h j
theorem Sh.an {n : Nat} {s : CS} (h : Sh n s) {p v : Nat} : ∀ {j : Nat}, v + j ≤ 40 → Sh n (ackN s p v j)
  | 0, _ => h
  | j + 1, hj => (h.an (j := j) (by omega)).aa (by omega)
/-- the chain without the failed of its first k -/
def tko (s : CS) : Nat → CS × Nat
  | 0 => (s, 0)
  | k + 1 => if s 7 (s 0 0 k) 0 = 0 then (w3 (tko s k).1 0 0 (tko s k).2 (s 0 0 k), (tko s k).2 + 1) else tko s k
theorem tko_le (s : CS) : ∀ k, (tko s k).2 ≤ k
  | 0 => Nat.le_refl 0
  | k + 1 => by have := tko_le s k; simp only [tko]; split <;> simp <;> omega
theorem tko_c {s : CS} {c i j : Nat} (h : c ≠ 0) : ∀ k, (tko s k).1 c i j = s c i j
  | 0 => rfl
  | k + 1 => by have := tko_c (s := s) (i := i) (j := j) h k; simp only [tko]; split; (simp [w3, h, this]); exact this
theorem tko_hi {s : CS} {j : Nat} : ∀ k, k ≤ j → (tko s k).1 0 0 j = s 0 0 j
  | 0, _ => rfl
  | k + 1, hk => by
    have h1 := tko_hi (s := s) (j := j) k (by omega); have h2 := tko_le s k
    simp only [tko]; split
    · simp only [w3]; rw [if_neg (by omega)]; exact h1
    · exact h1
theorem Sh.tk {n : Nat} {s : CS} (h : Sh n s) : ∀ {k : Nat}, k ≤ n → Sh n (tko s k).1
  | 0, _ => h
  | k + 1, hk => by
    have h1 := h.tk (k := k) (by omega)
    simp only [tko]; split
    · exact h1.m0 (h.ch k (by omega))
    · exact h1
def outS (s : CS) : CS := w3 (tko s (s 1 0 0)).1 1 0 0 (tko s (s 1 0 0)).2
set_option maxHeartbeats 4000000 in
set_option maxRecDepth 100000 in
/-- acknowledgeAllSentAtTail -/
theorem c_X3_acknowledgeAllSentAtTail (l : Launch) {g : GG} {a : Nat → Nat} {n : Nat} {A : Nat → Prop} (hA : Ap A a (5 + 7 * n)) (hn6 : n ≤ 6) {s : CS} (hs : Sh n s) (hle : s 6 (s 0 0 (s 1 0 0 - 1)) 0 ≤ s 5 (s 0 0 (s 1 0 0 - 1)) 0) : Met l yX3_acknowledgeAllSentAtTail wsX3_acknowledgeAllSentAtTail ({ frames := 3, cells := 0, slots := 0, locals := 64 }) (pC g [.ref (a 0)] (wC g a n s)) (qV g (wC g a n (ackN s (s 1 0 0 - 1) (s 6 (s 0 0 (s 1 0 0 - 1)) 0) (s 5 (s 0 0 (s 1 0 0 - 1)) 0 - s 6 (s 0 0 (s 1 0 0 - 1)) 0))) A) 0 0 A := by
  refine k_start (cc := cX3_acknowledgeAllSentAtTail) (maxL := 4) (ret := none) (by decide) rfl (Nat.le_of_ble_eq_true rfl) ?_
  intro pr en s0 m args below meth cd hx hb hml hr hlk hts hown hin hC hP ls hl
  have hS : va_S A s0.heap s0.heap [] := va_S.rf
  have hfx : CallFix pr m cd cX3_acknowledgeAllSentAtTail 4 s0 args wsX3_acknowledgeAllSentAtTail RX3 := ⟨hx, hb, hml, hown, hts⟩
  have hu3 : ∀ w ∈ wsX30, w.before args s0 = true := fun w h => hts w ((by decide +kernel : ∀ w ∈ wsX30, w ∈ wsX3_acknowledgeAllSentAtTail) w h)
  have hu1 : ∀ w ∈ wsX10, w.before args s0 = true := fun w h => hts w ((by decide +kernel : ∀ w ∈ wsX10, w ∈ wsX3_acknowledgeAllSentAtTail) w h)
  have hl : lv_has ls 4 [(0, .ref (a 0))] := hl
  have f0 := hs.len
  have f1 := hs.ch (s 1 0 0 - 1) (by omega)
  have f2 := hs.nd _ f1
  have loop : ∀ (d j : Nat), s 5 (s 0 0 (s 1 0 0 - 1)) 0 - s 6 (s 0 0 (s 1 0 0 - 1)) 0 + 1 ≤ j + d → j ≤ s 5 (s 0 0 (s 1 0 0 - 1)) 0 - s 6 (s 0 0 (s 1 0 0 - 1)) 0 → ∀ (H : Heap) (locs : List Loc), va_P g.1 vwCl (wC g a n (ackN s (s 1 0 0 - 1) (s 6 (s 0 0 (s 1 0 0 - 1)) 0) j)) H → va_S A s0.heap H locs → ∀ ls : Array Slot, lv_has ls 4 [(3, .int (nI (s 6 (s 0 0 (s 1 0 0 - 1)) 0 + j + 1))), (2, .ref (a (7 * (s 0 0 (s 1 0 0 - 1)) + 5))), (1, .int (nI (s 1 0 0 - 1))), (0, .ref (a 0))] → W pr l en ({ frames := 3, cells := 0, slots := 0, locals := 64 }) s0 m args below meth cd H locs 0 0 (MQ below (qV g (wC g a n (ackN s (s 1 0 0 - 1) (s 6 (s 0 0 (s 1 0 0 - 1)) 0) (s 5 (s 0 0 (s 1 0 0 - 1)) 0 - s 6 (s 0 0 (s 1 0 0 - 1)) 0))) A) args s0 0 0 A) (F0 m 20 ls []) := by
    intro d
    induction d with
    | zero => intro j h1 h2; exact absurd h1 (by omega)
    | succ d ih =>
      intro j h1 h2 H locs hP hS ls hl
      have e5 : (ackN s (s 1 0 0 - 1) (s 6 (s 0 0 (s 1 0 0 - 1)) 0) j) 5 (s 0 0 (s 1 0 0 - 1)) 0 = s 5 (s 0 0 (s 1 0 0 - 1)) 0 := ackN_c (by decide) j
      have e1 : (ackN s (s 1 0 0 - 1) (s 6 (s 0 0 (s 1 0 0 - 1)) 0) j) 1 0 0 = s 1 0 0 := ackN_c (by decide) j
      refine lv_iload_n hx hb dX3_acknowledgeAllSentAtTail_20 rfl (lv_at hl 0 rfl) ?_
      refine lv_aload_n hx hb dX3_acknowledgeAllSentAtTail_21 rfl (lv_at hl 1 rfl) ?_
      refine va_getN (D := g.1) (C := RX1) (T := TX1) (N := 5) (ci := 1) hx hb hu1 (fun _ h => h) hown hC.1 hP _ (wC_node (i := (s 0 0 (s 1 0 0 - 1))) (by omega)) rfl 2 (by decide) (hC.F (i := 52) (r := RX1) (n := "history") (d := "I") (by decide +kernel)) (fun _ h9 => h9) rfl dX3_acknowledgeAllSentAtTail_22 ?_
      refine k_icmp_gt (tgt := 40) hx hb dX3_acknowledgeAllSentAtTail_25 (by decide) (by omega) (by omega) (fun c25 => ?_) (fun c25 => ?_)
      · skip
        exact k_vret hx hb hr hlk (P_eq (congrArg (wC g a n) (by rw [show j = s 5 (s 0 0 (s 1 0 0 - 1)) 0 - s 6 (s 0 0 (s 1 0 0 - 1)) 0 by omega])) hP) hS dX3_acknowledgeAllSentAtTail_40
      · skip
        refine lv_aload_n hx hb dX3_acknowledgeAllSentAtTail_28 rfl (lv_at hl 3 rfl) ?_
        refine lv_iload_n hx hb dX3_acknowledgeAllSentAtTail_29 rfl (lv_at hl 2 rfl) ?_
        refine lv_iload_n hx hb dX3_acknowledgeAllSentAtTail_30 rfl (lv_at hl 0 rfl) ?_
        refine kV_v (w2 := wC g a n (ackAt (ackN s (s 1 0 0 - 1) (s 6 (s 0 0 (s 1 0 0 - 1)) 0) j) (s 1 0 0 - 1) (s 6 (s 0 0 (s 1 0 0 - 1)) 0 + j + 1))) (As := [.int (nI (s 1 0 0 - 1)), .int (nI (s 6 (s 0 0 (s 1 0 0 - 1)) 0 + j + 1))]) (b := a 0) (rest := []) (A1 := A) hfx (c_X3_acknowledgeAt l hA hn6 (s := (ackN s (s 1 0 0 - 1) (s 6 (s 0 0 (s 1 0 0 - 1)) 0) j)) (p := s 1 0 0 - 1) (v := s 6 (s 0 0 (s 1 0 0 - 1)) 0 + j + 1) (hs.an (by omega)) (by rw [e1]; omega) (by omega)) (cwV 2 hts gX3_acknowledgeAllSentAtTail_X3_acknowledgeAt rfl rfl rfl (by decide +kernel) ⟨by decide, by decide⟩) (va_recv hC.1 hP (ci := 3) rfl (wC_obj)) hC hP hS (fun _ h => h) rfl hl.1 rfl (Nat.le_of_ble_eq_true rfl) dX3_acknowledgeAllSentAtTail_31 ⟨Nat.le_of_ble_eq_true rfl, Nat.le_of_ble_eq_true rfl⟩ (fun H locs hP hS _ _ => ?_)
        refine lv_iinc (v := nI (s 6 (s 0 0 (s 1 0 0 - 1)) 0 + j + 1 + 1)) (lv' := [(3, .int (nI (s 6 (s 0 0 (s 1 0 0 - 1)) 0 + j + 1 + 1))), (2, .ref (a (7 * (s 0 0 (s 1 0 0 - 1)) + 5))), (1, .int (nI (s 1 0 0 - 1))), (0, .ref (a 0))]) hx hb dX3_acknowledgeAllSentAtTail_34 hl (k := 0) rfl (nI_add _ _) (by decide) rfl (fun ls hl => ?_)
        refine lv_goto (tgt := 20) hx hb dX3_acknowledgeAllSentAtTail_37 (by decide) ?_
        exact ih (j + 1) (by omega) (by omega) H locs hP hS ls (lv_sub hl [0, 1, 2, 3] rfl)
  refine lv_aload_n hx hb dX3_acknowledgeAllSentAtTail_0 rfl (lv_at hl 0 rfl) ?_
  refine va_get (D := g.1) (C := RX3) (T := TX3) (N := 6) (ci := 3) hx hb hu3 (fun _ h => h) hown hC.1 hP _ (wC_obj) rfl 2 (by decide) (hts (.fieldLink RX3 29 "SplicedChain" "chainLength" "I") (by decide +kernel)) (fun _ h9 => h9) rfl dX3_acknowledgeAllSentAtTail_1 ?_
  refine k_ic (x := 1) hx hb dX3_acknowledgeAllSentAtTail_4 (by decide) ?_
  refine k_isub (x := s 1 0 0) (y := 1) hx hb (by omega) dX3_acknowledgeAllSentAtTail_5 ?_
  refine lv_istore_n (lv' := [(1, .int (nI ((s 1 0 0) - 1))), (0, .ref (a 0))]) hx hb dX3_acknowledgeAllSentAtTail_6 rfl hl (by decide) rfl (fun ls hl => ?_)
  refine lv_aload_n hx hb dX3_acknowledgeAllSentAtTail_7 rfl (lv_at hl 1 rfl) ?_
  refine lv_iload_n hx hb dX3_acknowledgeAllSentAtTail_8 rfl (lv_at hl 0 rfl) ?_
  refine kV_r (r := a (7 * (s 0 0 ((s 1 0 0) - 1)) + 5)) (w2 := wC g a n s) (As := [.int (nI ((s 1 0 0) - 1))]) (b := a 0) (rest := []) (A1 := A) hfx (c_X3_nodeAt l hA hn6 (s := s) (p := (s 1 0 0) - 1) (x := s 0 0 ((s 1 0 0) - 1)) (rfl) (by omega) (by omega)) (cwV 1 hts gX3_acknowledgeAllSentAtTail_X3_nodeAt rfl rfl rfl (by decide +kernel) ⟨by decide, by decide⟩) (va_recv hC.1 hP (ci := 3) rfl (wC_obj)) hC hP hS (fun _ h => h) rfl hl.1 rfl (Nat.le_of_ble_eq_true rfl) dX3_acknowledgeAllSentAtTail_9 ⟨Nat.le_of_ble_eq_true rfl, Nat.le_of_ble_eq_true rfl⟩ (fun H locs hP hS _ _ => ?_)
  refine lv_astore_n (lv' := [(2, .ref (a (7 * (s 0 0 ((s 1 0 0) - 1)) + 5))), (1, .int (nI ((s 1 0 0) - 1))), (0, .ref (a 0))]) hx hb dX3_acknowledgeAllSentAtTail_12 rfl hl (by decide) rfl (fun ls hl => ?_)
  refine lv_aload_n hx hb dX3_acknowledgeAllSentAtTail_13 rfl (lv_at hl 0 rfl) ?_
  refine va_getN (D := g.1) (C := RX1) (T := TX1) (N := 5) (ci := 1) hx hb hu1 (fun _ h => h) hown hC.1 hP _ (wC_node (i := (s 0 0 ((s 1 0 0) - 1))) (by omega)) rfl 3 (by decide) (hC.F (i := 139) (r := RX1) (n := "acknowledged") (d := "I") (by decide +kernel)) (fun _ h9 => h9) rfl dX3_acknowledgeAllSentAtTail_14 ?_
  refine k_ic (x := 1) hx hb dX3_acknowledgeAllSentAtTail_17 (by decide) ?_
  refine k_iadd (x := s 6 ((s 0 0 ((s 1 0 0) - 1))) 0) (y := 1) hx hb dX3_acknowledgeAllSentAtTail_18 ?_
  refine lv_istore_n (lv' := [(3, .int (nI ((s 6 ((s 0 0 ((s 1 0 0) - 1))) 0) + 1))), (2, .ref (a (7 * (s 0 0 ((s 1 0 0) - 1)) + 5))), (1, .int (nI ((s 1 0 0) - 1))), (0, .ref (a 0))]) hx hb dX3_acknowledgeAllSentAtTail_19 rfl hl (by decide) rfl (fun ls hl => ?_)
  exact loop (s 5 (s 0 0 (s 1 0 0 - 1)) 0 - s 6 (s 0 0 (s 1 0 0 - 1)) 0 + 1) 0 (by omega) (by omega) _ _ hP hS ls (lv_sub hl [0, 1, 2, 3] rfl)
set_option maxHeartbeats 4000000 in
set_option maxRecDepth 100000 in
/-- takeOutFailed -/
theorem c_X3_takeOutFailed (l : Launch) {g : GG} {a : Nat → Nat} {n : Nat} {A : Nat → Prop} (hA : Ap A a (5 + 7 * n)) (hn6 : n ≤ 6) {s : CS} (hs : Sh n s) : Met l yX3_takeOutFailed wsX3_takeOutFailed ({ frames := 1, cells := 0, slots := 0, locals := 21 }) (pC g [.ref (a 0)] (wC g a n s)) (qV g (wC g a n (outS s)) A) 0 0 A := by
  refine k_start (cc := cX3_takeOutFailed) (maxL := 3) (ret := none) (by decide) rfl (Nat.le_of_ble_eq_true rfl) ?_
  intro pr en s0 m args below meth cd hx hb hml hr hlk hts hown hin hC hP ls hl
  have hS : va_S A s0.heap s0.heap [] := va_S.rf
  have hfx : CallFix pr m cd cX3_takeOutFailed 3 s0 args wsX3_takeOutFailed RX3 := ⟨hx, hb, hml, hown, hts⟩
  have hu3 : ∀ w ∈ wsX30, w.before args s0 = true := fun w h => hts w ((by decide +kernel : ∀ w ∈ wsX30, w ∈ wsX3_takeOutFailed) w h)
  have hu1 : ∀ w ∈ wsX10, w.before args s0 = true := fun w h => hts w ((by decide +kernel : ∀ w ∈ wsX10, w ∈ wsX3_takeOutFailed) w h)
  have hl : lv_has ls 3 [(0, .ref (a 0))] := hl
  have f0 := hs.len
  have loop : ∀ (d k : Nat), s 1 0 0 + 1 ≤ k + d → k ≤ s 1 0 0 → ∀ (H : Heap) (locs : List Loc), va_P g.1 vwCl (wC g a n (tko s k).1) H → va_S A s0.heap H locs → ∀ ls : Array Slot, lv_has ls 3 [(2, .int (nI k)), (1, .int (nI (tko s k).2)), (0, .ref (a 0))] → W pr l en ({ frames := 1, cells := 0, slots := 0, locals := 21 }) s0 m args below meth cd H locs 0 0 (MQ below (qV g (wC g a n (outS s)) A) args s0 0 0 A) (F0 m 4 ls []) := by
    intro d
    induction d with
    | zero => intro k h1 h2; exact absurd h1 (by omega)
    | succ d ih =>
      intro k h1 h2 H locs hP hS ls hl
      have e1 : (tko s k).1 1 0 0 = s 1 0 0 := tko_c (by decide) k
      have e0 : (tko s k).1 0 0 k = s 0 0 k := tko_hi k (Nat.le_refl k)
      have e7 : (tko s k).1 7 (s 0 0 k) 0 = s 7 (s 0 0 k) 0 := tko_c (by decide) k
      have e2 := tko_le s k
      refine lv_iload_n hx hb dX3_takeOutFailed_4 rfl (lv_at hl 0 rfl) ?_
      refine lv_aload_n hx hb dX3_takeOutFailed_5 rfl (lv_at hl 2 rfl) ?_
      refine va_get (D := g.1) (C := RX3) (T := TX3) (N := 6) (ci := 3) hx hb hu3 (fun _ h => h) hown hC.1 hP _ (wC_obj) rfl 2 (by decide) (hts (.fieldLink RX3 29 "SplicedChain" "chainLength" "I") (by decide +kernel)) (fun _ h9 => h9) rfl dX3_takeOutFailed_6 ?_
      refine k_icmp_ge (tgt := 44) hx hb dX3_takeOutFailed_9 (by decide) (by omega) (by omega) (fun c9 => ?_) (fun c9 => ?_)
      · skip
        have ek : k = s 1 0 0 := by omega
        refine lv_aload_n hx hb dX3_takeOutFailed_44 rfl (lv_at hl 2 rfl) ?_
        refine lv_iload_n hx hb dX3_takeOutFailed_45 rfl (lv_at hl 1 rfl) ?_
        refine va_put (D := g.1) (v := .int (nI ((tko s k).2))) (ty := .int) (C := RX3) (T := TX3) (N := 6) (ci := 3) hx hb hu3 (fun _ h => h) tyX3 tyX3_ok nmX3 hown hC.1 hP hA.D hS _ (wC_obj) rfl 2 (by decide) (hts (.fieldLink RX3 29 "SplicedChain" "chainLength" "I") (by decide +kernel)) (fun _ h9 => h9) rfl (by decide +kernel) rfl rfl (Nat.le_of_ble_eq_true rfl) dX3_takeOutFailed_46 (fun H locs hP _ hS => ?_)
        have hP : va_P g.1 vwCl (wC g a n (w3 (tko s k).1 1 0 0 ((tko s k).2))) H := P_eq wp_len hP
        exact k_vret hx hb hr hlk (P_eq (congrArg (wC g a n) (by unfold outS; rw [← ek])) hP) hS dX3_takeOutFailed_49
      · skip
        have f1 := hs.ch k (by omega)
        have f2 := hs.nd _ f1
        refine lv_aload_n hx hb dX3_takeOutFailed_12 rfl (lv_at hl 2 rfl) ?_
        refine lv_iload_n hx hb dX3_takeOutFailed_13 rfl (lv_at hl 0 rfl) ?_
        refine kV_r (r := a (7 * (s 0 0 k) + 5)) (w2 := wC g a n (tko s k).1) (As := [.int (nI k)]) (b := a 0) (rest := []) (A1 := A) hfx (c_X3_nodeAt l hA hn6 (s := (tko s k).1) (p := k) (x := s 0 0 k) (e0) (by omega) (by omega)) (cwV 1 hts gX3_takeOutFailed_X3_nodeAt rfl rfl rfl (by decide +kernel) ⟨by decide, by decide⟩) (va_recv hC.1 hP (ci := 3) rfl (wC_obj)) hC hP hS (fun _ h => h) rfl hl.1 rfl (Nat.le_of_ble_eq_true rfl) dX3_takeOutFailed_14 ⟨Nat.le_of_ble_eq_true rfl, Nat.le_of_ble_eq_true rfl⟩ (fun H locs hP hS _ _ => ?_)
        refine va_getN (D := g.1) (C := RX1) (T := TX1) (N := 5) (ci := 1) hx hb hu1 (fun _ h => h) hown hC.1 hP _ (wC_node (i := (s 0 0 k)) (by omega)) rfl 4 (by decide) (hC.F (i := 48) (r := RX1) (n := "failed") (d := "Z") (by decide +kernel)) (fun _ h9 => h9) rfl dX3_takeOutFailed_17 ?_
        refine k_if_ne (tgt := 38) hx hb dX3_takeOutFailed_20 (by decide) (by omega) (fun c20 => ?_) (fun c20 => ?_)
        · skip
          have z7 : ¬ s 7 (s 0 0 k) 0 = 0 := by omega
          refine lv_iinc (v := nI (k + 1)) (lv' := [(2, .int (nI (k + 1))), (1, .int (nI ((tko s k).2))), (0, .ref (a 0))]) hx hb dX3_takeOutFailed_38 hl (k := 0) rfl (nI_add _ _) (by decide) rfl (fun ls hl => ?_)
          refine lv_goto (tgt := 4) hx hb dX3_takeOutFailed_41 (by decide) ?_
          exact ih (k + 1) (by omega) (by omega) H locs (by rw [show (tko s (k + 1)).1 = (tko s k).1 by simp [tko, z7]]; exact hP) hS ls (by rw [show (tko s (k + 1)).2 = (tko s k).2 by simp [tko, z7]]; exact lv_sub hl [0, 1, 2] rfl)
        · skip
          have z7 : s 7 (s 0 0 k) 0 = 0 := by omega
          refine lv_aload_n hx hb dX3_takeOutFailed_23 rfl (lv_at hl 2 rfl) ?_
          refine va_get (D := g.1) (C := RX3) (T := TX3) (N := 6) (ci := 3) hx hb hu3 (fun _ h => h) hown hC.1 hP _ (wC_obj) rfl 1 (by decide) (hts (.fieldLink RX3 26 "SplicedChain" "chain" "[I") (by decide +kernel)) (fun _ h9 => h9) rfl dX3_takeOutFailed_24 ?_
          refine lv_iload_n hx hb dX3_takeOutFailed_27 rfl (lv_at hl 1 rfl) ?_
          refine lv_aload_n hx hb dX3_takeOutFailed_28 rfl (lv_at hl 2 rfl) ?_
          refine va_get (D := g.1) (C := RX3) (T := TX3) (N := 6) (ci := 3) hx hb hu3 (fun _ h => h) hown hC.1 hP _ (wC_obj) rfl 1 (by decide) (hts (.fieldLink RX3 26 "SplicedChain" "chain" "[I") (by decide +kernel)) (fun _ h9 => h9) rfl dX3_takeOutFailed_29 ?_
          refine lv_iload_n hx hb dX3_takeOutFailed_32 rfl (lv_at hl 0 rfl) ?_
          refine k_iald hx hb hC hP _ (wC_chain) (j := k) (by omega) (by omega) dX3_takeOutFailed_33 ?_
          refine k_iast hx hb hC hP hA.D hS _ (wC_chain) (j := (tko s k).2) (by omega) (by omega) dX3_takeOutFailed_34 wp_chain (fun H locs hP hS => ?_)
          refine lv_iinc (v := nI ((tko s k).2 + 1)) (lv' := [(1, .int (nI ((tko s k).2 + 1))), (2, .int (nI k)), (0, .ref (a 0))]) hx hb dX3_takeOutFailed_35 hl (k := 1) rfl (nI_add _ _) (by decide) rfl (fun ls hl => ?_)
          refine lv_iinc (v := nI (k + 1)) (lv' := [(2, .int (nI (k + 1))), (1, .int (nI ((tko s k).2 + 1))), (0, .ref (a 0))]) hx hb dX3_takeOutFailed_38 hl (k := 1) rfl (nI_add _ _) (by decide) rfl (fun ls hl => ?_)
          refine lv_goto (tgt := 4) hx hb dX3_takeOutFailed_41 (by decide) ?_
          exact ih (k + 1) (by omega) (by omega) H locs (by rw [show (tko s (k + 1)).1 = w3 (tko s k).1 0 0 (tko s k).2 (s 0 0 k) by simp [tko, z7]]; rw [e0] at hP; exact hP) hS ls (by rw [show (tko s (k + 1)).2 = (tko s k).2 + 1 by simp [tko, z7]]; exact lv_sub hl [0, 1, 2] rfl)
  refine k_ic (x := 0) hx hb dX3_takeOutFailed_0 (by decide) ?_
  refine lv_istore_n (lv' := [(1, .int (nI 0)), (0, .ref (a 0))]) hx hb dX3_takeOutFailed_1 rfl hl (by decide) rfl (fun ls hl => ?_)
  refine k_ic (x := 0) hx hb dX3_takeOutFailed_2 (by decide) ?_
  refine lv_istore_n (lv' := [(2, .int (nI 0)), (1, .int (nI 0)), (0, .ref (a 0))]) hx hb dX3_takeOutFailed_3 rfl hl (by decide) rfl (fun ls hl => ?_)
  exact loop (s 1 0 0 + 1) 0 (by omega) (by omega) _ _ hP hS ls (lv_sub hl [0, 1, 2] rfl)
set_option maxHeartbeats 4000000 in
set_option maxRecDepth 100000 in
/-- tail -/
theorem c_X3_tail (l : Launch) {g : GG} {a : Nat → Nat} {n : Nat} {A : Nat → Prop} (hA : Ap A a (5 + 7 * n)) (hn6 : n ≤ 6) {s : CS} {L : Nat} (hL : s 1 0 0 = L) (hL1 : 1 ≤ L ∧ L ≤ n) : Met l yX3_tail wsX3_tail ({ frames := 0, cells := 0, slots := 0, locals := 0 }) (pC g [.ref (a 0)] (wC g a n s)) (qI g (nI (s 0 0 (L - 1))) (wC g a n s) A) 0 0 A := by
  refine k_start (cc := cX3_tail) (maxL := 1) (ret := (some .int)) (by decide) rfl (Nat.le_of_ble_eq_true rfl) ?_
  intro pr en s0 m args below meth cd hx hb hml hr hlk hts hown hin hC hP ls hl
  have hS : va_S A s0.heap s0.heap [] := va_S.rf
  have hfx : CallFix pr m cd cX3_tail 1 s0 args wsX3_tail RX3 := ⟨hx, hb, hml, hown, hts⟩
  have hu3 : ∀ w ∈ wsX30, w.before args s0 = true := fun w h => hts w ((by decide +kernel : ∀ w ∈ wsX30, w ∈ wsX3_tail) w h)
  have hl : lv_has ls 1 [(0, .ref (a 0))] := hl
  subst hL
  refine lv_aload_n hx hb dX3_tail_0 rfl (lv_at hl 0 rfl) ?_
  refine va_get (D := g.1) (C := RX3) (T := TX3) (N := 6) (ci := 3) hx hb hu3 (fun _ h => h) hown hC.1 hP _ (wC_obj) rfl 1 (by decide) (hts (.fieldLink RX3 26 "SplicedChain" "chain" "[I") (by decide +kernel)) (fun _ h9 => h9) rfl dX3_tail_1 ?_
  refine lv_aload_n hx hb dX3_tail_4 rfl (lv_at hl 0 rfl) ?_
  refine va_get (D := g.1) (C := RX3) (T := TX3) (N := 6) (ci := 3) hx hb hu3 (fun _ h => h) hown hC.1 hP _ (wC_obj) rfl 2 (by decide) (hts (.fieldLink RX3 29 "SplicedChain" "chainLength" "I") (by decide +kernel)) (fun _ h9 => h9) rfl dX3_tail_5 ?_
  refine k_ic (x := 1) hx hb dX3_tail_8 (by decide) ?_
  refine k_isub (x := s 1 0 0) (y := 1) hx hb (by omega) dX3_tail_9 ?_
  refine k_iald hx hb hC hP _ (wC_chain) (j := (s 1 0 0) - 1) (by omega) (by omega) dX3_tail_10 ?_
  exact k_iret hx hb hr hlk (by rfl) hP hS dX3_tail_11
set_option maxHeartbeats 4000000 in
set_option maxRecDepth 100000 in
/-- head -/
theorem c_X3_head (l : Launch) {g : GG} {a : Nat → Nat} {n : Nat} {A : Nat → Prop} (hA : Ap A a (5 + 7 * n)) (hn6 : n ≤ 6) {s : CS} (hn1 : 1 ≤ n) : Met l yX3_head wsX3_head ({ frames := 0, cells := 0, slots := 0, locals := 0 }) (pC g [.ref (a 0)] (wC g a n s)) (qI g (nI (s 0 0 0)) (wC g a n s) A) 0 0 A := by
  refine k_start (cc := cX3_head) (maxL := 1) (ret := (some .int)) (by decide) rfl (Nat.le_of_ble_eq_true rfl) ?_
  intro pr en s0 m args below meth cd hx hb hml hr hlk hts hown hin hC hP ls hl
  have hS : va_S A s0.heap s0.heap [] := va_S.rf
  have hfx : CallFix pr m cd cX3_head 1 s0 args wsX3_head RX3 := ⟨hx, hb, hml, hown, hts⟩
  have hu3 : ∀ w ∈ wsX30, w.before args s0 = true := fun w h => hts w ((by decide +kernel : ∀ w ∈ wsX30, w ∈ wsX3_head) w h)
  have hl : lv_has ls 1 [(0, .ref (a 0))] := hl
  refine lv_aload_n hx hb dX3_head_0 rfl (lv_at hl 0 rfl) ?_
  refine va_get (D := g.1) (C := RX3) (T := TX3) (N := 6) (ci := 3) hx hb hu3 (fun _ h => h) hown hC.1 hP _ (wC_obj) rfl 1 (by decide) (hts (.fieldLink RX3 26 "SplicedChain" "chain" "[I") (by decide +kernel)) (fun _ h9 => h9) rfl dX3_head_1 ?_
  refine k_ic (x := 0) hx hb dX3_head_4 (by decide) ?_
  refine k_iald hx hb hC hP _ (wC_chain) (j := 0) (by omega) (by omega) dX3_head_5 ?_
  exact k_iret hx hb hr hlk (by rfl) hP hS dX3_head_6
set_option maxHeartbeats 4000000 in
set_option maxRecDepth 100000 in
/-- replied -/
theorem c_X3_replied (l : Launch) {g : GG} {a : Nat → Nat} {n : Nat} {A : Nat → Prop} (hA : Ap A a (5 + 7 * n)) (hn6 : n ≤ 6) {s : CS} {x : Int32}  : Met l yX3_replied wsX3_replied ({ frames := 0, cells := 0, slots := 0, locals := 0 }) (pC g [.ref (a 0), .int (x)] (wC g a n s)) (qI g (nI (if 1 ≤ x ∧ x ≤ nI (s 4 0 0) then 1 else 0)) (wC g a n s) A) 0 0 A := by
  refine k_start (cc := cX3_replied) (maxL := 2) (ret := (some .boolean)) (by decide) rfl (Nat.le_of_ble_eq_true rfl) ?_
  intro pr en s0 m args below meth cd hx hb hml hr hlk hts hown hin hC hP ls hl
  have hS : va_S A s0.heap s0.heap [] := va_S.rf
  have hfx : CallFix pr m cd cX3_replied 2 s0 args wsX3_replied RX3 := ⟨hx, hb, hml, hown, hts⟩
  have hu3 : ∀ w ∈ wsX30, w.before args s0 = true := fun w h => hts w ((by decide +kernel : ∀ w ∈ wsX30, w ∈ wsX3_replied) w h)
  have hl : lv_has ls 2 [(0, .ref (a 0)), (1, .int (x))] := hl
  refine lv_iload_n hx hb dX3_replied_0 rfl (lv_at hl 1 rfl) ?_
  refine k_ic (x := 1) hx hb dX3_replied_1 (by decide) ?_
  refine lv_icmp_lt (tgt := 17) hx hb dX3_replied_2 (by decide) (fun c2 => ?_) (fun c2 => ?_)
  · skip
    have f1 : ¬ (1 ≤ x ∧ x ≤ nI (s 4 0 0)) := fun q => absurd q.1 (Int32.not_le.mpr c2)
    refine k_ic (x := 0) hx hb dX3_replied_17 (by decide) ?_
    exact k_zret hx hb hr hlk (by first | rw [if_pos f1] | rw [if_neg f1]) (by decide) hP hS dX3_replied_18
  · skip
    refine lv_iload_n hx hb dX3_replied_5 rfl (lv_at hl 1 rfl) ?_
    refine lv_aload_n hx hb dX3_replied_6 rfl (lv_at hl 0 rfl) ?_
    refine va_get (D := g.1) (C := RX3) (T := TX3) (N := 6) (ci := 3) hx hb hu3 (fun _ h => h) hown hC.1 hP _ (wC_obj) rfl 5 (by decide) (hts (.fieldLink RX3 16 "SplicedChain" "replies" "I") (by decide +kernel)) (fun _ h9 => h9) rfl dX3_replied_7 ?_
    refine lv_icmp_gt (tgt := 17) hx hb dX3_replied_10 (by decide) (fun c10 => ?_) (fun c10 => ?_)
    · skip
      have f1 : ¬ (1 ≤ x ∧ x ≤ nI (s 4 0 0)) := fun q => absurd q.2 (Int32.not_le.mpr c10)
      refine k_ic (x := 0) hx hb dX3_replied_17 (by decide) ?_
      exact k_zret hx hb hr hlk (by first | rw [if_pos f1] | rw [if_neg f1]) (by decide) hP hS dX3_replied_18
    · skip
      have f1 : 1 ≤ x ∧ x ≤ nI (s 4 0 0) := ⟨Int32.not_lt.mp c2, Int32.not_lt.mp c10⟩
      refine k_ic (x := 1) hx hb dX3_replied_13 (by decide) ?_
      refine lv_goto (tgt := 18) hx hb dX3_replied_14 (by decide) ?_
      exact k_zret hx hb hr hlk (by first | rw [if_pos f1] | rw [if_neg f1]) (by decide) hP hS dX3_replied_18
end
section
def writeS (s : CS) (j v : Nat) : CS := applyAt (w3 (w3 s 2 0 (s 5 (s 0 0 0) 0 + 1) j) 3 0 (s 5 (s 0 0 0) 0 + 1) v) 0 (s 5 (s 0 0 0) 0 + 1)
def closeAt (s : CS) (p : Nat) : CS := if 0 < p then lclose (lclose s (s 0 0 p)) (s 0 0 (p - 1)) else lclose s (s 0 0 p)
def ackAll (s : CS) : CS := ackN s (s 1 0 0 - 1) (s 6 (s 0 0 (s 1 0 0 - 1)) 0) (s 5 (s 0 0 (s 1 0 0 - 1)) 0 - s 6 (s 0 0 (s 1 0 0 - 1)) 0)
def repS (s : CS) : CS := if (outS s) 0 0 ((outS s) 1 0 0 - 1) = s 0 0 (s 1 0 0 - 1) then outS s else ackAll (outS s)
theorem Sh.out {n : Nat} {s : CS} (h : Sh n s) (h1 : 1 ≤ (tko s (s 1 0 0)).2) : Sh n (outS s) := (h.tk h.1.2).m1 ⟨h1, Nat.le_trans (tko_le s _) h.1.2⟩
theorem ackAll_1 {s : CS} : ackAll s 1 0 0 = s 1 0 0 := ackN_c (by decide) _
set_option maxHeartbeats 4000000 in
set_option maxRecDepth 100000 in
/-- write -/
theorem c_X3_write (l : Launch) {g : GG} {a : Nat → Nat} {n : Nat} {A : Nat → Prop} (hA : Ap A a (5 + 7 * n)) (hn6 : n ≤ 6) {s : CS} {j v : Nat} (hs : Sh n s) (hj : j < 8) (hfl : s 7 (s 0 0 0) 0 = 0) (hh : s 5 (s 0 0 0) 0 < 40) : Met l yX3_write wsX3_write ({ frames := 4, cells := 0, slots := 0, locals := 87 }) (pC g [.ref (a 0), .int (nI j), .int (nI v)] (wC g a n s)) (qI g (nI (s 5 (s 0 0 0) 0 + 1)) (wC g a n (writeS s j v)) A) 0 0 A := by
  refine k_start (cc := cX3_write) (maxL := 5) (ret := (some .int)) (by decide) rfl (Nat.le_of_ble_eq_true rfl) ?_
  intro pr en s0 m args below meth cd hx hb hml hr hlk hts hown hin hC hP ls hl
  have hS : va_S A s0.heap s0.heap [] := va_S.rf
  have hfx : CallFix pr m cd cX3_write 5 s0 args wsX3_write RX3 := ⟨hx, hb, hml, hown, hts⟩
  have hu3 : ∀ w ∈ wsX30, w.before args s0 = true := fun w h => hts w ((by decide +kernel : ∀ w ∈ wsX30, w ∈ wsX3_write) w h)
  have hu1 : ∀ w ∈ wsX10, w.before args s0 = true := fun w h => hts w ((by decide +kernel : ∀ w ∈ wsX10, w ∈ wsX3_write) w h)
  have hl : lv_has ls 5 [(0, .ref (a 0)), (1, .int (nI j)), (2, .int (nI v))] := hl
  have f0 := hs.len
  have f1 := hs.ch 0 (by omega)
  refine lv_iload_n hx hb dX3_write_0 rfl (lv_at hl 1 rfl) ?_
  refine kS_i (r := nI 1) (w2 := wC g a n s) (As := [.int (nI j)]) (rest := []) (A1 := A) hfx (c_X3_isKey l hA hn6 (s := s) (j := j) (by omega)) (va_cwS 1 hts gX3_write_X3_isKey rfl rfl rfl (by decide +kernel) ⟨by decide, by decide⟩) hC hP hS (fun _ h => h) rfl hl.1 rfl (Nat.le_of_ble_eq_true rfl) dX3_write_1 ⟨Nat.le_of_ble_eq_true rfl, Nat.le_of_ble_eq_true rfl⟩ (fun H locs hP hS _ _ => ?_)
  refine k_if_ne (tgt := 17) hx hb dX3_write_4 (by decide) (by omega) (fun c4 => ?_) (fun c4 => ?_)
  · skip
    refine lv_aload_n hx hb dX3_write_17 rfl (lv_at hl 0 rfl) ?_
    refine k_ic (x := 0) hx hb dX3_write_18 (by decide) ?_
    refine kV_r (r := a (7 * (s 0 0 0) + 5)) (w2 := wC g a n s) (As := [.int (nI 0)]) (b := a 0) (rest := []) (A1 := A) hfx (c_X3_nodeAt l hA hn6 (s := s) (p := 0) (x := s 0 0 0) (rfl) (by omega) (by omega)) (cwV 1 hts gX3_write_X3_nodeAt rfl rfl rfl (by decide +kernel) ⟨by decide, by decide⟩) (va_recv hC.1 hP (ci := 3) rfl (wC_obj)) hC hP hS (fun _ h => h) rfl hl.1 rfl (Nat.le_of_ble_eq_true rfl) dX3_write_19 ⟨Nat.le_of_ble_eq_true rfl, Nat.le_of_ble_eq_true rfl⟩ (fun H locs hP hS _ _ => ?_)
    refine lv_astore_n (lv' := [(3, .ref (a (7 * (s 0 0 0) + 5))), (0, .ref (a 0)), (1, .int (nI j)), (2, .int (nI v))]) hx hb dX3_write_22 rfl hl (by decide) rfl (fun ls hl => ?_)
    refine lv_aload_n hx hb dX3_write_23 rfl (lv_at hl 0 rfl) ?_
    refine va_getN (D := g.1) (C := RX1) (T := TX1) (N := 5) (ci := 1) hx hb hu1 (fun _ h => h) hown hC.1 hP _ (wC_node (i := (s 0 0 0)) (by omega)) rfl 4 (by decide) (hC.F (i := 48) (r := RX1) (n := "failed") (d := "Z") (by decide +kernel)) (fun _ h9 => h9) rfl dX3_write_24 ?_
    refine k_if_ne (tgt := 39) hx hb dX3_write_27 (by decide) (by omega) (fun c27 => ?_) (fun c27 => ?_)
    · exfalso; omega
    · skip
      refine lv_aload_n hx hb dX3_write_30 rfl (lv_at hl 0 rfl) ?_
      refine va_getN (D := g.1) (C := RX1) (T := TX1) (N := 5) (ci := 1) hx hb hu1 (fun _ h => h) hown hC.1 hP _ (wC_node (i := (s 0 0 0)) (by omega)) rfl 2 (by decide) (hC.F (i := 52) (r := RX1) (n := "history") (d := "I") (by decide +kernel)) (fun _ h9 => h9) rfl dX3_write_31 ?_
      refine k_bi (x := 40) hx hb dX3_write_34 (by decide) ?_
      refine k_icmp_lt (tgt := 49) hx hb dX3_write_36 (by decide) (by omega) (by omega) (fun c36 => ?_) (fun c36 => ?_)
      · skip
        refine lv_aload_n hx hb dX3_write_49 rfl (lv_at hl 0 rfl) ?_
        refine va_getN (D := g.1) (C := RX1) (T := TX1) (N := 5) (ci := 1) hx hb hu1 (fun _ h => h) hown hC.1 hP _ (wC_node (i := (s 0 0 0)) (by omega)) rfl 2 (by decide) (hC.F (i := 52) (r := RX1) (n := "history") (d := "I") (by decide +kernel)) (fun _ h9 => h9) rfl dX3_write_50 ?_
        refine k_ic (x := 1) hx hb dX3_write_53 (by decide) ?_
        refine k_iadd (x := s 5 ((s 0 0 0)) 0) (y := 1) hx hb dX3_write_54 ?_
        refine lv_istore (lv' := [(4, .int (nI ((s 5 ((s 0 0 0)) 0) + 1))), (3, .ref (a (7 * (s 0 0 0) + 5))), (0, .ref (a 0)), (1, .int (nI j)), (2, .int (nI v))]) hx hb dX3_write_55 hl (by decide) rfl (fun ls hl => ?_)
        refine lv_aload_n hx hb dX3_write_57 rfl (lv_at hl 2 rfl) ?_
        refine va_get (D := g.1) (C := RX3) (T := TX3) (N := 6) (ci := 3) hx hb hu3 (fun _ h => h) hown hC.1 hP _ (wC_obj) rfl 3 (by decide) (hts (.fieldLink RX3 9 "SplicedChain" "keyOfUpdate" "[I") (by decide +kernel)) (fun _ h9 => h9) rfl dX3_write_58 ?_
        refine lv_iload hx hb dX3_write_61 (lv_at hl 0 rfl) ?_
        refine lv_iload_n hx hb dX3_write_63 rfl (lv_at hl 3 rfl) ?_
        refine k_iast hx hb hC hP hA.D hS _ (wC_keys) (j := (s 5 ((s 0 0 0)) 0) + 1) (by omega) (by omega) dX3_write_64 wp_keys (fun H locs hP hS => ?_)
        refine lv_aload_n hx hb dX3_write_65 rfl (lv_at hl 2 rfl) ?_
        refine va_get (D := g.1) (C := RX3) (T := TX3) (N := 6) (ci := 3) hx hb hu3 (fun _ h => h) hown hC.1 hP _ (wC_obj) rfl 4 (by decide) (hts (.fieldLink RX3 13 "SplicedChain" "valueOfUpdate" "[I") (by decide +kernel)) (fun _ h9 => h9) rfl dX3_write_66 ?_
        refine lv_iload hx hb dX3_write_69 (lv_at hl 0 rfl) ?_
        refine lv_iload_n hx hb dX3_write_71 rfl (lv_at hl 4 rfl) ?_
        refine k_iast hx hb hC hP hA.D hS _ (wC_vs) (j := (s 5 ((s 0 0 0)) 0) + 1) (by omega) (by omega) dX3_write_72 wp_vs (fun H locs hP hS => ?_)
        refine lv_aload_n hx hb dX3_write_73 rfl (lv_at hl 2 rfl) ?_
        refine k_ic (x := 0) hx hb dX3_write_74 (by decide) ?_
        refine lv_iload hx hb dX3_write_75 (lv_at hl 0 rfl) ?_
        refine kV_v (w2 := wC g a n (applyAt (w3 (w3 s 2 0 ((s 5 ((s 0 0 0)) 0) + 1) j) 3 0 ((s 5 ((s 0 0 0)) 0) + 1) v) 0 ((s 5 ((s 0 0 0)) 0) + 1))) (As := [.int (nI 0), .int (nI ((s 5 ((s 0 0 0)) 0) + 1))]) (b := a 0) (rest := []) (A1 := A) hfx (c_X3_applyAt l hA hn6 (s := (w3 (w3 s 2 0 ((s 5 ((s 0 0 0)) 0) + 1) j) 3 0 ((s 5 ((s 0 0 0)) 0) + 1) v)) (p := 0) (v := (s 5 ((s 0 0 0)) 0) + 1) ((hs.m2 hj).m3) (by simp [w3]; omega) (by omega)) (cwV 2 hts gX3_write_X3_applyAt rfl rfl rfl (by decide +kernel) ⟨by decide, by decide⟩) (va_recv hC.1 hP (ci := 3) rfl (wC_obj)) hC hP hS (fun _ h => h) rfl hl.1 rfl (Nat.le_of_ble_eq_true rfl) dX3_write_77 ⟨Nat.le_of_ble_eq_true rfl, Nat.le_of_ble_eq_true rfl⟩ (fun H locs hP hS _ _ => ?_)
        refine lv_iload hx hb dX3_write_80 (lv_at hl 0 rfl) ?_
        exact k_iret hx hb hr hlk (by rfl) hP hS dX3_write_82
      · exfalso; omega
  · exfalso; omega
set_option maxHeartbeats 4000000 in
set_option maxRecDepth 100000 in
/-- read -/
theorem c_X3_read (l : Launch) {g : GG} {a : Nat → Nat} {n : Nat} {A : Nat → Prop} (hA : Ap A a (5 + 7 * n)) (hn6 : n ≤ 6) {s : CS} {j : Nat} (hs : Sh n s) (hj : j < 8) (hfl : s 7 (s 0 0 (s 1 0 0 - 1)) 0 = 0) : Met l yX3_read wsX3_read ({ frames := 1, cells := 0, slots := 0, locals := 21 }) (pC g [.ref (a 0), .int (nI j)] (wC g a n s)) (qI g (nI (s 12 (s 0 0 (s 1 0 0 - 1)) j)) (wC g a n s) A) 0 0 A := by
  refine k_start (cc := cX3_read) (maxL := 3) (ret := (some .int)) (by decide) rfl (Nat.le_of_ble_eq_true rfl) ?_
  intro pr en s0 m args below meth cd hx hb hml hr hlk hts hown hin hC hP ls hl
  have hS : va_S A s0.heap s0.heap [] := va_S.rf
  have hfx : CallFix pr m cd cX3_read 3 s0 args wsX3_read RX3 := ⟨hx, hb, hml, hown, hts⟩
  have hu3 : ∀ w ∈ wsX30, w.before args s0 = true := fun w h => hts w ((by decide +kernel : ∀ w ∈ wsX30, w ∈ wsX3_read) w h)
  have hu1 : ∀ w ∈ wsX10, w.before args s0 = true := fun w h => hts w ((by decide +kernel : ∀ w ∈ wsX10, w ∈ wsX3_read) w h)
  have hl : lv_has ls 3 [(0, .ref (a 0)), (1, .int (nI j))] := hl
  have f0 := hs.len
  have f1 := hs.ch (s 1 0 0 - 1) (by omega)
  refine lv_iload_n hx hb dX3_read_0 rfl (lv_at hl 1 rfl) ?_
  refine kS_i (r := nI 1) (w2 := wC g a n s) (As := [.int (nI j)]) (rest := []) (A1 := A) hfx (c_X3_isKey l hA hn6 (s := s) (j := j) (by omega)) (va_cwS 1 hts gX3_read_X3_isKey rfl rfl rfl (by decide +kernel) ⟨by decide, by decide⟩) hC hP hS (fun _ h => h) rfl hl.1 rfl (Nat.le_of_ble_eq_true rfl) dX3_read_1 ⟨Nat.le_of_ble_eq_true rfl, Nat.le_of_ble_eq_true rfl⟩ (fun H locs hP hS _ _ => ?_)
  refine k_if_ne (tgt := 17) hx hb dX3_read_4 (by decide) (by omega) (fun c4 => ?_) (fun c4 => ?_)
  · skip
    refine lv_aload_n hx hb dX3_read_17 rfl (lv_at hl 0 rfl) ?_
    refine lv_aload_n hx hb dX3_read_18 rfl (lv_at hl 0 rfl) ?_
    refine va_get (D := g.1) (C := RX3) (T := TX3) (N := 6) (ci := 3) hx hb hu3 (fun _ h => h) hown hC.1 hP _ (wC_obj) rfl 2 (by decide) (hts (.fieldLink RX3 29 "SplicedChain" "chainLength" "I") (by decide +kernel)) (fun _ h9 => h9) rfl dX3_read_19 ?_
    refine k_ic (x := 1) hx hb dX3_read_22 (by decide) ?_
    refine k_isub (x := s 1 0 0) (y := 1) hx hb (by omega) dX3_read_23 ?_
    refine kV_r (r := a (7 * (s 0 0 ((s 1 0 0) - 1)) + 5)) (w2 := wC g a n s) (As := [.int (nI ((s 1 0 0) - 1))]) (b := a 0) (rest := []) (A1 := A) hfx (c_X3_nodeAt l hA hn6 (s := s) (p := (s 1 0 0) - 1) (x := s 0 0 ((s 1 0 0) - 1)) (rfl) (by omega) (by omega)) (cwV 1 hts gX3_read_X3_nodeAt rfl rfl rfl (by decide +kernel) ⟨by decide, by decide⟩) (va_recv hC.1 hP (ci := 3) rfl (wC_obj)) hC hP hS (fun _ h => h) rfl hl.1 rfl (Nat.le_of_ble_eq_true rfl) dX3_read_24 ⟨Nat.le_of_ble_eq_true rfl, Nat.le_of_ble_eq_true rfl⟩ (fun H locs hP hS _ _ => ?_)
    refine lv_astore_n (lv' := [(2, .ref (a (7 * (s 0 0 ((s 1 0 0) - 1)) + 5))), (0, .ref (a 0)), (1, .int (nI j))]) hx hb dX3_read_27 rfl hl (by decide) rfl (fun ls hl => ?_)
    refine lv_aload_n hx hb dX3_read_28 rfl (lv_at hl 0 rfl) ?_
    refine va_getN (D := g.1) (C := RX1) (T := TX1) (N := 5) (ci := 1) hx hb hu1 (fun _ h => h) hown hC.1 hP _ (wC_node (i := (s 0 0 ((s 1 0 0) - 1))) (by omega)) rfl 4 (by decide) (hC.F (i := 48) (r := RX1) (n := "failed") (d := "Z") (by decide +kernel)) (fun _ h9 => h9) rfl dX3_read_29 ?_
    refine k_if_eq (tgt := 45) hx hb dX3_read_32 (by decide) (by omega) (fun c32 => ?_) (fun c32 => ?_)
    · skip
      refine lv_aload_n hx hb dX3_read_45 rfl (lv_at hl 0 rfl) ?_
      refine va_getN (D := g.1) (C := RX1) (T := TX1) (N := 5) (ci := 1) hx hb hu1 (fun _ h => h) hown hC.1 hP _ (wC_node (i := (s 0 0 ((s 1 0 0) - 1))) (by omega)) rfl 0 (by decide) (hC.F (i := 66) (r := RX1) (n := "values") (d := "[I") (by decide +kernel)) (fun _ h9 => h9) rfl dX3_read_46 ?_
      refine lv_iload_n hx hb dX3_read_49 rfl (lv_at hl 2 rfl) ?_
      refine k_iald hx hb hC hP _ (wC_vals (i := (s 0 0 ((s 1 0 0) - 1))) (by omega)) (j := j) (by omega) (by omega) dX3_read_50 ?_
      exact k_iret hx hb hr hlk (by rfl) hP hS dX3_read_51
    · exfalso; omega
  · exfalso; omega
set_option maxHeartbeats 4000000 in
set_option maxRecDepth 100000 in
/-- deliver -/
theorem c_X3_deliver (l : Launch) {g : GG} {a : Nat → Nat} {n : Nat} {A : Nat → Prop} (hA : Ap A a (5 + 7 * n)) (hn6 : n ≤ 6) {s : CS} {p nd : Nat} (hs : Sh n s) (hnd : nd < n) (hp : p < s 1 0 0) (hpe : s 0 0 p = nd) (hf : ∀ k, k < p → s 0 0 k ≠ nd) (hfl : s 7 nd 0 = 0) (hp0 : 0 < p) (hq : 0 < s 10 (2 * s 0 0 (p - 1) + 0) 0) : Met l yX3_deliver wsX3_deliver ({ frames := 4, cells := 0, slots := 0, locals := 87 }) (pC g [.ref (a 0), .int (nI nd)] (wC g a n s)) (qI g (nI (s 11 (2 * s 0 0 (p - 1) + 0) (s 9 (2 * s 0 0 (p - 1) + 0) 0))) (wC g a n (applyAt (qtake s (2 * s 0 0 (p - 1) + 0)) p (s 11 (2 * s 0 0 (p - 1) + 0) (s 9 (2 * s 0 0 (p - 1) + 0) 0)))) A) 0 0 A := by
  refine k_start (cc := cX3_deliver) (maxL := 4) (ret := (some .int)) (by decide) rfl (Nat.le_of_ble_eq_true rfl) ?_
  intro pr en s0 m args below meth cd hx hb hml hr hlk hts hown hin hC hP ls hl
  have hS : va_S A s0.heap s0.heap [] := va_S.rf
  have hfx : CallFix pr m cd cX3_deliver 4 s0 args wsX3_deliver RX3 := ⟨hx, hb, hml, hown, hts⟩
  have hu3 : ∀ w ∈ wsX30, w.before args s0 = true := fun w h => hts w ((by decide +kernel : ∀ w ∈ wsX30, w ∈ wsX3_deliver) w h)
  have hu1 : ∀ w ∈ wsX10, w.before args s0 = true := fun w h => hts w ((by decide +kernel : ∀ w ∈ wsX10, w ∈ wsX3_deliver) w h)
  have hu0 : ∀ w ∈ wsX00, w.before args s0 = true := fun w h => hts w ((by decide +kernel : ∀ w ∈ wsX00, w ∈ wsX3_deliver) w h)
  have hu2 : ∀ w ∈ wsX20, w.before args s0 = true := fun w h => hts w ((by decide +kernel : ∀ w ∈ wsX20, w ∈ wsX3_deliver) w h)
  have hl : lv_has ls 4 [(0, .ref (a 0)), (1, .int (nI nd))] := hl
  have f0 := hs.len
  have f1 := hs.ch (p - 1) (by omega)
  have f2 := hs.qu (2 * s 0 0 (p - 1) + 0) (by omega)
  have f3 := hs.nu (2 * s 0 0 (p - 1) + 0) (s 9 (2 * s 0 0 (p - 1) + 0) 0) (by omega) (by omega)
  refine lv_aload_n hx hb dX3_deliver_0 rfl (lv_at hl 0 rfl) ?_
  refine lv_iload_n hx hb dX3_deliver_1 rfl (lv_at hl 1 rfl) ?_
  refine kV_i (r := nI 1) (w2 := wC g a n s) (As := [.int (nI nd)]) (b := a 0) (rest := []) (A1 := A) hfx (c_X3_isNode l hA hn6 (s := s) (j := nd) (by omega)) (cwV 1 hts gX3_deliver_X3_isNode rfl rfl rfl (by decide +kernel) ⟨by decide, by decide⟩) (va_recv hC.1 hP (ci := 3) rfl (wC_obj)) hC hP hS (fun _ h => h) rfl hl.1 rfl (Nat.le_of_ble_eq_true rfl) dX3_deliver_2 ⟨Nat.le_of_ble_eq_true rfl, Nat.le_of_ble_eq_true rfl⟩ (fun H locs hP hS _ _ => ?_)
  refine k_if_ne (tgt := 18) hx hb dX3_deliver_5 (by decide) (by omega) (fun c5 => ?_) (fun c5 => ?_)
  · skip
    refine lv_aload_n hx hb dX3_deliver_18 rfl (lv_at hl 0 rfl) ?_
    refine va_get (D := g.1) (C := RX3) (T := TX3) (N := 6) (ci := 3) hx hb hu3 (fun _ h => h) hown hC.1 hP _ (wC_obj) rfl 0 (by decide) (hts (.fieldLink RX3 22 "SplicedChain" "nodes" "[LSplicedChain$Node;") (by decide +kernel)) (fun _ h9 => h9) rfl dX3_deliver_19 ?_
    refine lv_iload_n hx hb dX3_deliver_22 rfl (lv_at hl 1 rfl) ?_
    refine k_aald (x := a (7 * nd + 5)) hx hb hC hP _ (wC_nodes) (j := nd) (by omega) (by omega) (by simp; omega) dX3_deliver_23 ?_
    refine va_getN (D := g.1) (C := RX1) (T := TX1) (N := 5) (ci := 1) hx hb hu1 (fun _ h => h) hown hC.1 hP _ (wC_node (i := nd) (by omega)) rfl 4 (by decide) (hC.F (i := 48) (r := RX1) (n := "failed") (d := "Z") (by decide +kernel)) (fun _ h9 => h9) rfl dX3_deliver_24 ?_
    refine k_if_eq (tgt := 40) hx hb dX3_deliver_27 (by decide) (by omega) (fun c27 => ?_) (fun c27 => ?_)
    · skip
      refine lv_aload_n hx hb dX3_deliver_40 rfl (lv_at hl 0 rfl) ?_
      refine lv_iload_n hx hb dX3_deliver_41 rfl (lv_at hl 1 rfl) ?_
      refine kV_i (r := nI p) (w2 := wC g a n s) (As := [.int (nI nd)]) (b := a 0) (rest := []) (A1 := A) hfx (c_X3_positionOf l hA hn6 (s := s) (p := p) (nd := nd) (hs) (by omega) (hp) (hpe) (hf)) (cwV 1 hts gX3_deliver_X3_positionOf rfl rfl rfl (by decide +kernel) ⟨by decide, by decide⟩) (va_recv hC.1 hP (ci := 3) rfl (wC_obj)) hC hP hS (fun _ h => h) rfl hl.1 rfl (Nat.le_of_ble_eq_true rfl) dX3_deliver_42 ⟨Nat.le_of_ble_eq_true rfl, Nat.le_of_ble_eq_true rfl⟩ (fun H locs hP hS _ _ => ?_)
      refine lv_istore_n (lv' := [(2, .int (nI p)), (0, .ref (a 0)), (1, .int (nI nd))]) hx hb dX3_deliver_45 rfl hl (by decide) rfl (fun ls hl => ?_)
      refine lv_aload_n hx hb dX3_deliver_46 rfl (lv_at hl 1 rfl) ?_
      refine lv_iload_n hx hb dX3_deliver_47 rfl (lv_at hl 0 rfl) ?_
      refine kV_i (r := nI (if 0 < p then s 10 (2 * s 0 0 (p - 1) + 0) 0 else 0)) (w2 := wC g a n s) (As := [.int (nI p)]) (b := a 0) (rest := []) (A1 := A) hfx (c_X3_updatesTowards l hA hn6 (s := s) (p := p) (hs) (by omega)) (cwV 1 hts gX3_deliver_X3_updatesTowards rfl rfl rfl (by decide +kernel) ⟨by decide, by decide⟩) (va_recv hC.1 hP (ci := 3) rfl (wC_obj)) hC hP hS (fun _ h => h) rfl hl.1 rfl (Nat.le_of_ble_eq_true rfl) dX3_deliver_48 ⟨Nat.le_of_ble_eq_true rfl, Nat.le_of_ble_eq_true rfl⟩ (fun H locs hP hS _ _ => ?_)
      rw [if_pos hp0]
      refine k_if_ne (tgt := 64) hx hb dX3_deliver_51 (by decide) (by omega) (fun c51 => ?_) (fun c51 => ?_)
      · skip
        refine lv_aload_n hx hb dX3_deliver_64 rfl (lv_at hl 1 rfl) ?_
        refine lv_iload_n hx hb dX3_deliver_65 rfl (lv_at hl 0 rfl) ?_
        refine k_ic (x := 1) hx hb dX3_deliver_66 (by decide) ?_
        refine k_isub (x := p) (y := 1) hx hb (by omega) dX3_deliver_67 ?_
        refine kV_r (r := a (7 * (s 0 0 (p - 1)) + 5)) (w2 := wC g a n s) (As := [.int (nI (p - 1))]) (b := a 0) (rest := []) (A1 := A) hfx (c_X3_nodeAt l hA hn6 (s := s) (p := p - 1) (x := s 0 0 (p - 1)) (rfl) (by omega) (by omega)) (cwV 1 hts gX3_deliver_X3_nodeAt rfl rfl rfl (by decide +kernel) ⟨by decide, by decide⟩) (va_recv hC.1 hP (ci := 3) rfl (wC_obj)) hC hP hS (fun _ h => h) rfl hl.1 rfl (Nat.le_of_ble_eq_true rfl) dX3_deliver_68 ⟨Nat.le_of_ble_eq_true rfl, Nat.le_of_ble_eq_true rfl⟩ (fun H locs hP hS _ _ => ?_)
        refine va_getN (D := g.1) (C := RX1) (T := TX1) (N := 5) (ci := 1) hx hb hu1 (fun _ h => h) hown hC.1 hP _ (wC_node (i := (s 0 0 (p - 1))) (by omega)) rfl 1 (by decide) (hC.F (i := 88) (r := RX1) (n := "link") (d := "LSplicedChain$Link;") (by decide +kernel)) (fun _ h9 => h9) rfl dX3_deliver_71 ?_
        refine va_getN (D := g.1) (C := RX0) (T := TX0) (N := 3) (ci := 0) hx hb hu0 (fun _ h => h) hown hC.1 hP _ (wC_link (i := (s 0 0 (p - 1))) (by omega)) rfl 0 (by decide) (hC.F (i := 92) (r := RX0) (n := "updates") (d := "LSplicedChain$Queue;") (by decide +kernel)) (fun _ h9 => h9) rfl dX3_deliver_74 ?_
        refine kV_i (r := nI (s 11 (2 * (s 0 0 (p - 1)) + 0) (s 9 (2 * (s 0 0 (p - 1)) + 0) 0))) (w2 := wC g a n (qtake s (2 * (s 0 0 (p - 1)) + 0))) (As := []) (b := a (7 * (s 0 0 (p - 1)) + 8)) (rest := []) (A1 := A) hfx (c_X2_take l hA hn6 (s := s) (i := (s 0 0 (p - 1))) (w := 0) (by omega) (by decide) (by omega) (by omega)) (cwV 0 hts gX3_deliver_X2_take rfl rfl rfl (by decide +kernel) ⟨by decide, by decide⟩) (va_recv hC.1 hP (ci := 2) rfl (wC_q (i := (s 0 0 (p - 1))) (w := 0) (by omega) (by decide))) hC hP hS (fun _ h => h) rfl hl.1 rfl (Nat.le_of_ble_eq_true rfl) dX3_deliver_77 ⟨Nat.le_of_ble_eq_true rfl, Nat.le_of_ble_eq_true rfl⟩ (fun H locs hP hS _ _ => ?_)
        refine lv_istore_n (lv' := [(3, .int (nI (s 11 (2 * (s 0 0 (p - 1)) + 0) (s 9 (2 * (s 0 0 (p - 1)) + 0) 0)))), (2, .int (nI p)), (0, .ref (a 0)), (1, .int (nI nd))]) hx hb dX3_deliver_80 rfl hl (by decide) rfl (fun ls hl => ?_)
        refine lv_aload_n hx hb dX3_deliver_81 rfl (lv_at hl 2 rfl) ?_
        refine lv_iload_n hx hb dX3_deliver_82 rfl (lv_at hl 1 rfl) ?_
        refine lv_iload_n hx hb dX3_deliver_83 rfl (lv_at hl 0 rfl) ?_
        refine kV_v (w2 := wC g a n (applyAt (qtake s (2 * (s 0 0 (p - 1)) + 0)) p (s 11 (2 * (s 0 0 (p - 1)) + 0) (s 9 (2 * (s 0 0 (p - 1)) + 0) 0)))) (As := [.int (nI p), .int (nI (s 11 (2 * (s 0 0 (p - 1)) + 0) (s 9 (2 * (s 0 0 (p - 1)) + 0) 0)))]) (b := a 0) (rest := []) (A1 := A) hfx (c_X3_applyAt l hA hn6 (s := (qtake s (2 * (s 0 0 (p - 1)) + 0))) (p := p) (v := s 11 (2 * (s 0 0 (p - 1)) + 0) (s 9 (2 * (s 0 0 (p - 1)) + 0) 0)) (hs.qt (by omega)) (by simp [qtake, w3]; omega) (by omega)) (cwV 2 hts gX3_deliver_X3_applyAt rfl rfl rfl (by decide +kernel) ⟨by decide, by decide⟩) (va_recv hC.1 hP (ci := 3) rfl (wC_obj)) hC hP hS (fun _ h => h) rfl hl.1 rfl (Nat.le_of_ble_eq_true rfl) dX3_deliver_84 ⟨Nat.le_of_ble_eq_true rfl, Nat.le_of_ble_eq_true rfl⟩ (fun H locs hP hS _ _ => ?_)
        refine lv_iload_n hx hb dX3_deliver_87 rfl (lv_at hl 0 rfl) ?_
        exact k_iret hx hb hr hlk (by rfl) hP hS dX3_deliver_88
      · exfalso; omega
    · exfalso; omega
  · exfalso; omega
set_option maxHeartbeats 4000000 in
set_option maxRecDepth 100000 in
/-- acknowledge -/
theorem c_X3_acknowledge (l : Launch) {g : GG} {a : Nat → Nat} {n : Nat} {A : Nat → Prop} (hA : Ap A a (5 + 7 * n)) (hn6 : n ≤ 6) {s : CS} {p nd : Nat} (hs : Sh n s) (hnd : nd < n) (hp : p < s 1 0 0) (hpe : s 0 0 p = nd) (hf : ∀ k, k < p → s 0 0 k ≠ nd) (hfl : s 7 nd 0 = 0) (hp0 : p + 1 ≠ s 1 0 0) (hq : 0 < s 10 (2 * s 0 0 p + 1) 0) : Met l yX3_acknowledge wsX3_acknowledge ({ frames := 3, cells := 0, slots := 0, locals := 64 }) (pC g [.ref (a 0), .int (nI nd)] (wC g a n s)) (qI g (nI (s 11 (2 * s 0 0 p + 1) (s 9 (2 * s 0 0 p + 1) 0))) (wC g a n (ackAt (qtake s (2 * s 0 0 p + 1)) p (s 11 (2 * s 0 0 p + 1) (s 9 (2 * s 0 0 p + 1) 0)))) A) 0 0 A := by
  refine k_start (cc := cX3_acknowledge) (maxL := 4) (ret := (some .int)) (by decide) rfl (Nat.le_of_ble_eq_true rfl) ?_
  intro pr en s0 m args below meth cd hx hb hml hr hlk hts hown hin hC hP ls hl
  have hS : va_S A s0.heap s0.heap [] := va_S.rf
  have hfx : CallFix pr m cd cX3_acknowledge 4 s0 args wsX3_acknowledge RX3 := ⟨hx, hb, hml, hown, hts⟩
  have hu3 : ∀ w ∈ wsX30, w.before args s0 = true := fun w h => hts w ((by decide +kernel : ∀ w ∈ wsX30, w ∈ wsX3_acknowledge) w h)
  have hu1 : ∀ w ∈ wsX10, w.before args s0 = true := fun w h => hts w ((by decide +kernel : ∀ w ∈ wsX10, w ∈ wsX3_acknowledge) w h)
  have hu0 : ∀ w ∈ wsX00, w.before args s0 = true := fun w h => hts w ((by decide +kernel : ∀ w ∈ wsX00, w ∈ wsX3_acknowledge) w h)
  have hu2 : ∀ w ∈ wsX20, w.before args s0 = true := fun w h => hts w ((by decide +kernel : ∀ w ∈ wsX20, w ∈ wsX3_acknowledge) w h)
  have hl : lv_has ls 4 [(0, .ref (a 0)), (1, .int (nI nd))] := hl
  have f0 := hs.len
  have f1 := hs.ch p (by omega)
  have f2 := hs.qu (2 * s 0 0 p + 1) (by omega)
  have f3 := hs.nu (2 * s 0 0 p + 1) (s 9 (2 * s 0 0 p + 1) 0) (by omega) (by omega)
  refine lv_aload_n hx hb dX3_acknowledge_0 rfl (lv_at hl 0 rfl) ?_
  refine lv_iload_n hx hb dX3_acknowledge_1 rfl (lv_at hl 1 rfl) ?_
  refine kV_i (r := nI 1) (w2 := wC g a n s) (As := [.int (nI nd)]) (b := a 0) (rest := []) (A1 := A) hfx (c_X3_isNode l hA hn6 (s := s) (j := nd) (by omega)) (cwV 1 hts gX3_acknowledge_X3_isNode rfl rfl rfl (by decide +kernel) ⟨by decide, by decide⟩) (va_recv hC.1 hP (ci := 3) rfl (wC_obj)) hC hP hS (fun _ h => h) rfl hl.1 rfl (Nat.le_of_ble_eq_true rfl) dX3_acknowledge_2 ⟨Nat.le_of_ble_eq_true rfl, Nat.le_of_ble_eq_true rfl⟩ (fun H locs hP hS _ _ => ?_)
  refine k_if_ne (tgt := 18) hx hb dX3_acknowledge_5 (by decide) (by omega) (fun c5 => ?_) (fun c5 => ?_)
  · skip
    refine lv_aload_n hx hb dX3_acknowledge_18 rfl (lv_at hl 0 rfl) ?_
    refine va_get (D := g.1) (C := RX3) (T := TX3) (N := 6) (ci := 3) hx hb hu3 (fun _ h => h) hown hC.1 hP _ (wC_obj) rfl 0 (by decide) (hts (.fieldLink RX3 22 "SplicedChain" "nodes" "[LSplicedChain$Node;") (by decide +kernel)) (fun _ h9 => h9) rfl dX3_acknowledge_19 ?_
    refine lv_iload_n hx hb dX3_acknowledge_22 rfl (lv_at hl 1 rfl) ?_
    refine k_aald (x := a (7 * nd + 5)) hx hb hC hP _ (wC_nodes) (j := nd) (by omega) (by omega) (by simp; omega) dX3_acknowledge_23 ?_
    refine va_getN (D := g.1) (C := RX1) (T := TX1) (N := 5) (ci := 1) hx hb hu1 (fun _ h => h) hown hC.1 hP _ (wC_node (i := nd) (by omega)) rfl 4 (by decide) (hC.F (i := 48) (r := RX1) (n := "failed") (d := "Z") (by decide +kernel)) (fun _ h9 => h9) rfl dX3_acknowledge_24 ?_
    refine k_if_eq (tgt := 40) hx hb dX3_acknowledge_27 (by decide) (by omega) (fun c27 => ?_) (fun c27 => ?_)
    · skip
      refine lv_aload_n hx hb dX3_acknowledge_40 rfl (lv_at hl 0 rfl) ?_
      refine lv_iload_n hx hb dX3_acknowledge_41 rfl (lv_at hl 1 rfl) ?_
      refine kV_i (r := nI p) (w2 := wC g a n s) (As := [.int (nI nd)]) (b := a 0) (rest := []) (A1 := A) hfx (c_X3_positionOf l hA hn6 (s := s) (p := p) (nd := nd) (hs) (by omega) (hp) (hpe) (hf)) (cwV 1 hts gX3_acknowledge_X3_positionOf rfl rfl rfl (by decide +kernel) ⟨by decide, by decide⟩) (va_recv hC.1 hP (ci := 3) rfl (wC_obj)) hC hP hS (fun _ h => h) rfl hl.1 rfl (Nat.le_of_ble_eq_true rfl) dX3_acknowledge_42 ⟨Nat.le_of_ble_eq_true rfl, Nat.le_of_ble_eq_true rfl⟩ (fun H locs hP hS _ _ => ?_)
      refine lv_istore_n (lv' := [(2, .int (nI p)), (0, .ref (a 0)), (1, .int (nI nd))]) hx hb dX3_acknowledge_45 rfl hl (by decide) rfl (fun ls hl => ?_)
      refine lv_aload_n hx hb dX3_acknowledge_46 rfl (lv_at hl 1 rfl) ?_
      refine lv_iload_n hx hb dX3_acknowledge_47 rfl (lv_at hl 0 rfl) ?_
      refine kV_i (r := nI (if p + 1 = s 1 0 0 then 0 else s 10 (2 * s 0 0 p + 1) 0)) (w2 := wC g a n s) (As := [.int (nI p)]) (b := a 0) (rest := []) (A1 := A) hfx (c_X3_acknowledgementsTowards l hA hn6 (s := s) (p := p) (hs) (by omega)) (cwV 1 hts gX3_acknowledge_X3_acknowledgementsTowards rfl rfl rfl (by decide +kernel) ⟨by decide, by decide⟩) (va_recv hC.1 hP (ci := 3) rfl (wC_obj)) hC hP hS (fun _ h => h) rfl hl.1 rfl (Nat.le_of_ble_eq_true rfl) dX3_acknowledge_48 ⟨Nat.le_of_ble_eq_true rfl, Nat.le_of_ble_eq_true rfl⟩ (fun H locs hP hS _ _ => ?_)
      rw [if_neg hp0]
      refine k_if_ne (tgt := 64) hx hb dX3_acknowledge_51 (by decide) (by omega) (fun c51 => ?_) (fun c51 => ?_)
      · skip
        refine lv_aload_n hx hb dX3_acknowledge_64 rfl (lv_at hl 1 rfl) ?_
        refine lv_iload_n hx hb dX3_acknowledge_65 rfl (lv_at hl 0 rfl) ?_
        refine kV_r (r := a (7 * (s 0 0 p) + 5)) (w2 := wC g a n s) (As := [.int (nI p)]) (b := a 0) (rest := []) (A1 := A) hfx (c_X3_nodeAt l hA hn6 (s := s) (p := p) (x := s 0 0 p) (rfl) (by omega) (by omega)) (cwV 1 hts gX3_acknowledge_X3_nodeAt rfl rfl rfl (by decide +kernel) ⟨by decide, by decide⟩) (va_recv hC.1 hP (ci := 3) rfl (wC_obj)) hC hP hS (fun _ h => h) rfl hl.1 rfl (Nat.le_of_ble_eq_true rfl) dX3_acknowledge_66 ⟨Nat.le_of_ble_eq_true rfl, Nat.le_of_ble_eq_true rfl⟩ (fun H locs hP hS _ _ => ?_)
        refine va_getN (D := g.1) (C := RX1) (T := TX1) (N := 5) (ci := 1) hx hb hu1 (fun _ h => h) hown hC.1 hP _ (wC_node (i := (s 0 0 p)) (by omega)) rfl 1 (by decide) (hC.F (i := 88) (r := RX1) (n := "link") (d := "LSplicedChain$Link;") (by decide +kernel)) (fun _ h9 => h9) rfl dX3_acknowledge_69 ?_
        refine va_getN (D := g.1) (C := RX0) (T := TX0) (N := 3) (ci := 0) hx hb hu0 (fun _ h => h) hown hC.1 hP _ (wC_link (i := (s 0 0 p)) (by omega)) rfl 1 (by decide) (hC.F (i := 109) (r := RX0) (n := "acknowledgements") (d := "LSplicedChain$Queue;") (by decide +kernel)) (fun _ h9 => h9) rfl dX3_acknowledge_72 ?_
        refine kV_i (r := nI (s 11 (2 * (s 0 0 p) + 1) (s 9 (2 * (s 0 0 p) + 1) 0))) (w2 := wC g a n (qtake s (2 * (s 0 0 p) + 1))) (As := []) (b := a (7 * (s 0 0 p) + 10)) (rest := []) (A1 := A) hfx (c_X2_take l hA hn6 (s := s) (i := (s 0 0 p)) (w := 1) (by omega) (by decide) (by omega) (by omega)) (cwV 0 hts gX3_acknowledge_X2_take rfl rfl rfl (by decide +kernel) ⟨by decide, by decide⟩) (va_recv hC.1 hP (ci := 2) rfl (wC_q (i := (s 0 0 p)) (w := 1) (by omega) (by decide))) hC hP hS (fun _ h => h) rfl hl.1 rfl (Nat.le_of_ble_eq_true rfl) dX3_acknowledge_75 ⟨Nat.le_of_ble_eq_true rfl, Nat.le_of_ble_eq_true rfl⟩ (fun H locs hP hS _ _ => ?_)
        refine lv_istore_n (lv' := [(3, .int (nI (s 11 (2 * (s 0 0 p) + 1) (s 9 (2 * (s 0 0 p) + 1) 0)))), (2, .int (nI p)), (0, .ref (a 0)), (1, .int (nI nd))]) hx hb dX3_acknowledge_78 rfl hl (by decide) rfl (fun ls hl => ?_)
        refine lv_aload_n hx hb dX3_acknowledge_79 rfl (lv_at hl 2 rfl) ?_
        refine lv_iload_n hx hb dX3_acknowledge_80 rfl (lv_at hl 1 rfl) ?_
        refine lv_iload_n hx hb dX3_acknowledge_81 rfl (lv_at hl 0 rfl) ?_
        refine kV_v (w2 := wC g a n (ackAt (qtake s (2 * (s 0 0 p) + 1)) p (s 11 (2 * (s 0 0 p) + 1) (s 9 (2 * (s 0 0 p) + 1) 0)))) (As := [.int (nI p), .int (nI (s 11 (2 * (s 0 0 p) + 1) (s 9 (2 * (s 0 0 p) + 1) 0)))]) (b := a 0) (rest := []) (A1 := A) hfx (c_X3_acknowledgeAt l hA hn6 (s := (qtake s (2 * (s 0 0 p) + 1))) (p := p) (v := s 11 (2 * (s 0 0 p) + 1) (s 9 (2 * (s 0 0 p) + 1) 0)) (hs.qt (by omega)) (by simp [qtake, w3]; omega) (by omega)) (cwV 2 hts gX3_acknowledge_X3_acknowledgeAt rfl rfl rfl (by decide +kernel) ⟨by decide, by decide⟩) (va_recv hC.1 hP (ci := 3) rfl (wC_obj)) hC hP hS (fun _ h => h) rfl hl.1 rfl (Nat.le_of_ble_eq_true rfl) dX3_acknowledge_82 ⟨Nat.le_of_ble_eq_true rfl, Nat.le_of_ble_eq_true rfl⟩ (fun H locs hP hS _ _ => ?_)
        refine lv_iload_n hx hb dX3_acknowledge_85 rfl (lv_at hl 0 rfl) ?_
        exact k_iret hx hb hr hlk (by rfl) hP hS dX3_acknowledge_86
      · exfalso; omega
    · exfalso; omega
  · exfalso; omega
set_option maxHeartbeats 4000000 in
set_option maxRecDepth 100000 in
/-- fail: not done -/
theorem c_X3_fail_no (l : Launch) {g : GG} {a : Nat → Nat} {n : Nat} {A : Nat → Prop} (hA : Ap A a (5 + 7 * n)) (hn6 : n ≤ 6) {s : CS} {nd : Nat} (hs : Sh n s) (hnd : nd < n) (hno : s 7 nd 0 ≠ 0 ∨ cntS s n ≤ 1) : Met l yX3_fail wsX3_fail ({ frames := 3, cells := 0, slots := 0, locals := 61 }) (pC g [.ref (a 0), .int (nI nd)] (wC g a n s)) (qI g (nI 0) (wC g a n s) A) 0 0 A := by
  refine k_start (cc := cX3_fail) (maxL := 2) (ret := (some .boolean)) (by decide) rfl (Nat.le_of_ble_eq_true rfl) ?_
  intro pr en s0 m args below meth cd hx hb hml hr hlk hts hown hin hC hP ls hl
  have hS : va_S A s0.heap s0.heap [] := va_S.rf
  have hfx : CallFix pr m cd cX3_fail 2 s0 args wsX3_fail RX3 := ⟨hx, hb, hml, hown, hts⟩
  have hu3 : ∀ w ∈ wsX30, w.before args s0 = true := fun w h => hts w ((by decide +kernel : ∀ w ∈ wsX30, w ∈ wsX3_fail) w h)
  have hu1 : ∀ w ∈ wsX10, w.before args s0 = true := fun w h => hts w ((by decide +kernel : ∀ w ∈ wsX10, w ∈ wsX3_fail) w h)
  have hl : lv_has ls 2 [(0, .ref (a 0)), (1, .int (nI nd))] := hl
  have f0 := hs.nd nd hnd
  have f1 := cntS_le s n
  refine lv_aload_n hx hb dX3_fail_0 rfl (lv_at hl 0 rfl) ?_
  refine lv_iload_n hx hb dX3_fail_1 rfl (lv_at hl 1 rfl) ?_
  refine kV_i (r := nI 1) (w2 := wC g a n s) (As := [.int (nI nd)]) (b := a 0) (rest := []) (A1 := A) hfx (c_X3_isNode l hA hn6 (s := s) (j := nd) (by omega)) (cwV 1 hts gX3_fail_X3_isNode rfl rfl rfl (by decide +kernel) ⟨by decide, by decide⟩) (va_recv hC.1 hP (ci := 3) rfl (wC_obj)) hC hP hS (fun _ h => h) rfl hl.1 rfl (Nat.le_of_ble_eq_true rfl) dX3_fail_2 ⟨Nat.le_of_ble_eq_true rfl, Nat.le_of_ble_eq_true rfl⟩ (fun H locs hP hS _ _ => ?_)
  refine k_if_ne (tgt := 18) hx hb dX3_fail_5 (by decide) (by omega) (fun c5 => ?_) (fun c5 => ?_)
  · skip
    refine lv_aload_n hx hb dX3_fail_18 rfl (lv_at hl 0 rfl) ?_
    refine va_get (D := g.1) (C := RX3) (T := TX3) (N := 6) (ci := 3) hx hb hu3 (fun _ h => h) hown hC.1 hP _ (wC_obj) rfl 0 (by decide) (hts (.fieldLink RX3 22 "SplicedChain" "nodes" "[LSplicedChain$Node;") (by decide +kernel)) (fun _ h9 => h9) rfl dX3_fail_19 ?_
    refine lv_iload_n hx hb dX3_fail_22 rfl (lv_at hl 1 rfl) ?_
    refine k_aald (x := a (7 * nd + 5)) hx hb hC hP _ (wC_nodes) (j := nd) (by omega) (by omega) (by simp; omega) dX3_fail_23 ?_
    refine va_getN (D := g.1) (C := RX1) (T := TX1) (N := 5) (ci := 1) hx hb hu1 (fun _ h => h) hown hC.1 hP _ (wC_node (i := nd) (by omega)) rfl 4 (by decide) (hC.F (i := 48) (r := RX1) (n := "failed") (d := "Z") (by decide +kernel)) (fun _ h9 => h9) rfl dX3_fail_24 ?_
    refine k_if_ne (tgt := 38) hx hb dX3_fail_27 (by decide) (by omega) (fun c27 => ?_) (fun c27 => ?_)
    · skip
      refine k_ic (x := 0) hx hb dX3_fail_38 (by decide) ?_
      exact k_zret hx hb hr hlk (by rfl) (by decide) hP hS dX3_fail_39
    · skip
      refine lv_aload_n hx hb dX3_fail_30 rfl (lv_at hl 0 rfl) ?_
      refine kV_i (r := nI (cntS s n)) (w2 := wC g a n s) (As := []) (b := a 0) (rest := []) (A1 := A) hfx (c_X3_countStanding l hA hn6 (s := s) (hs)) (cwV 0 hts gX3_fail_X3_countStanding rfl rfl rfl (by decide +kernel) ⟨by decide, by decide⟩) (va_recv hC.1 hP (ci := 3) rfl (wC_obj)) hC hP hS (fun _ h => h) rfl hl.1 rfl (Nat.le_of_ble_eq_true rfl) dX3_fail_31 ⟨Nat.le_of_ble_eq_true rfl, Nat.le_of_ble_eq_true rfl⟩ (fun H locs hP hS _ _ => ?_)
      refine k_ic (x := 1) hx hb dX3_fail_34 (by decide) ?_
      refine k_icmp_gt (tgt := 40) hx hb dX3_fail_35 (by decide) (by omega) (by omega) (fun c35 => ?_) (fun c35 => ?_)
      · exfalso; omega
      · skip
        refine k_ic (x := 0) hx hb dX3_fail_38 (by decide) ?_
        exact k_zret hx hb hr hlk (by rfl) (by decide) hP hS dX3_fail_39
  · exfalso; omega
set_option maxHeartbeats 4000000 in
set_option maxRecDepth 100000 in
/-- fail: done -/
theorem c_X3_fail (l : Launch) {g : GG} {a : Nat → Nat} {n : Nat} {A : Nat → Prop} (hA : Ap A a (5 + 7 * n)) (hn6 : n ≤ 6) {s : CS} {p nd : Nat} (hs : Sh n s) (hnd : nd < n) (hp : p < s 1 0 0) (hpe : s 0 0 p = nd) (hf : ∀ k, k < p → s 0 0 k ≠ nd) (hfl : s 7 nd 0 = 0) (hct : 1 < cntS s n) : Met l yX3_fail wsX3_fail ({ frames := 3, cells := 0, slots := 0, locals := 61 }) (pC g [.ref (a 0), .int (nI nd)] (wC g a n s)) (qI g (nI 1) (wC g a n (closeAt (w3 s 7 nd 0 1) p)) A) 0 0 A := by
  refine k_start (cc := cX3_fail) (maxL := 2) (ret := (some .boolean)) (by decide) rfl (Nat.le_of_ble_eq_true rfl) ?_
  intro pr en s0 m args below meth cd hx hb hml hr hlk hts hown hin hC hP ls hl
  have hS : va_S A s0.heap s0.heap [] := va_S.rf
  have hfx : CallFix pr m cd cX3_fail 2 s0 args wsX3_fail RX3 := ⟨hx, hb, hml, hown, hts⟩
  have hu3 : ∀ w ∈ wsX30, w.before args s0 = true := fun w h => hts w ((by decide +kernel : ∀ w ∈ wsX30, w ∈ wsX3_fail) w h)
  have hu1 : ∀ w ∈ wsX10, w.before args s0 = true := fun w h => hts w ((by decide +kernel : ∀ w ∈ wsX10, w ∈ wsX3_fail) w h)
  have hl : lv_has ls 2 [(0, .ref (a 0)), (1, .int (nI nd))] := hl
  have f0 := hs.nd nd hnd
  have f1 := cntS_le s n
  have f2 := hs.len
  refine lv_aload_n hx hb dX3_fail_0 rfl (lv_at hl 0 rfl) ?_
  refine lv_iload_n hx hb dX3_fail_1 rfl (lv_at hl 1 rfl) ?_
  refine kV_i (r := nI 1) (w2 := wC g a n s) (As := [.int (nI nd)]) (b := a 0) (rest := []) (A1 := A) hfx (c_X3_isNode l hA hn6 (s := s) (j := nd) (by omega)) (cwV 1 hts gX3_fail_X3_isNode rfl rfl rfl (by decide +kernel) ⟨by decide, by decide⟩) (va_recv hC.1 hP (ci := 3) rfl (wC_obj)) hC hP hS (fun _ h => h) rfl hl.1 rfl (Nat.le_of_ble_eq_true rfl) dX3_fail_2 ⟨Nat.le_of_ble_eq_true rfl, Nat.le_of_ble_eq_true rfl⟩ (fun H locs hP hS _ _ => ?_)
  refine k_if_ne (tgt := 18) hx hb dX3_fail_5 (by decide) (by omega) (fun c5 => ?_) (fun c5 => ?_)
  · skip
    refine lv_aload_n hx hb dX3_fail_18 rfl (lv_at hl 0 rfl) ?_
    refine va_get (D := g.1) (C := RX3) (T := TX3) (N := 6) (ci := 3) hx hb hu3 (fun _ h => h) hown hC.1 hP _ (wC_obj) rfl 0 (by decide) (hts (.fieldLink RX3 22 "SplicedChain" "nodes" "[LSplicedChain$Node;") (by decide +kernel)) (fun _ h9 => h9) rfl dX3_fail_19 ?_
    refine lv_iload_n hx hb dX3_fail_22 rfl (lv_at hl 1 rfl) ?_
    refine k_aald (x := a (7 * nd + 5)) hx hb hC hP _ (wC_nodes) (j := nd) (by omega) (by omega) (by simp; omega) dX3_fail_23 ?_
    refine va_getN (D := g.1) (C := RX1) (T := TX1) (N := 5) (ci := 1) hx hb hu1 (fun _ h => h) hown hC.1 hP _ (wC_node (i := nd) (by omega)) rfl 4 (by decide) (hC.F (i := 48) (r := RX1) (n := "failed") (d := "Z") (by decide +kernel)) (fun _ h9 => h9) rfl dX3_fail_24 ?_
    refine k_if_ne (tgt := 38) hx hb dX3_fail_27 (by decide) (by omega) (fun c27 => ?_) (fun c27 => ?_)
    · exfalso; omega
    · skip
      refine lv_aload_n hx hb dX3_fail_30 rfl (lv_at hl 0 rfl) ?_
      refine kV_i (r := nI (cntS s n)) (w2 := wC g a n s) (As := []) (b := a 0) (rest := []) (A1 := A) hfx (c_X3_countStanding l hA hn6 (s := s) (hs)) (cwV 0 hts gX3_fail_X3_countStanding rfl rfl rfl (by decide +kernel) ⟨by decide, by decide⟩) (va_recv hC.1 hP (ci := 3) rfl (wC_obj)) hC hP hS (fun _ h => h) rfl hl.1 rfl (Nat.le_of_ble_eq_true rfl) dX3_fail_31 ⟨Nat.le_of_ble_eq_true rfl, Nat.le_of_ble_eq_true rfl⟩ (fun H locs hP hS _ _ => ?_)
      refine k_ic (x := 1) hx hb dX3_fail_34 (by decide) ?_
      refine k_icmp_gt (tgt := 40) hx hb dX3_fail_35 (by decide) (by omega) (by omega) (fun c35 => ?_) (fun c35 => ?_)
      · skip
        refine lv_aload_n hx hb dX3_fail_40 rfl (lv_at hl 0 rfl) ?_
        refine va_get (D := g.1) (C := RX3) (T := TX3) (N := 6) (ci := 3) hx hb hu3 (fun _ h => h) hown hC.1 hP _ (wC_obj) rfl 0 (by decide) (hts (.fieldLink RX3 22 "SplicedChain" "nodes" "[LSplicedChain$Node;") (by decide +kernel)) (fun _ h9 => h9) rfl dX3_fail_41 ?_
        refine lv_iload_n hx hb dX3_fail_44 rfl (lv_at hl 1 rfl) ?_
        refine k_aald (x := a (7 * nd + 5)) hx hb hC hP _ (wC_nodes) (j := nd) (by omega) (by omega) (by simp; omega) dX3_fail_45 ?_
        refine k_ic (x := 1) hx hb dX3_fail_46 (by decide) ?_
        refine va_putN (D := g.1) (v := .int (nI 1)) (ty := .boolean) (C := RX1) (T := TX1) (N := 5) (ci := 1) hx hb hu1 (fun _ h => h) tyX1 tyX1_ok nmX1 hown hC.1 hP hA.D hS _ (wC_node (i := nd) (by omega)) rfl 4 (by decide) (hC.F (i := 48) (r := RX1) (n := "failed") (d := "Z") (by decide +kernel)) (fun _ h9 => h9) rfl (by decide +kernel) (by decide) rfl (Nat.le_of_ble_eq_true rfl) dX3_fail_47 (fun H locs hP _ hS => ?_)
        have hP : va_P g.1 vwCl (wC g a n (w3 s 7 nd 0 1)) H := P_eq (wp_fail (i := nd)) hP
        refine lv_aload_n hx hb dX3_fail_50 rfl (lv_at hl 0 rfl) ?_
        refine lv_aload_n hx hb dX3_fail_51 rfl (lv_at hl 0 rfl) ?_
        refine lv_iload_n hx hb dX3_fail_52 rfl (lv_at hl 1 rfl) ?_
        refine kV_i (r := nI p) (w2 := wC g a n (w3 s 7 nd 0 1)) (As := [.int (nI nd)]) (b := a 0) (rest := [.ref (a 0)]) (A1 := A) hfx (c_X3_positionOf l hA hn6 (s := (w3 s 7 nd 0 1)) (p := p) (nd := nd) (hs.m7 (by omega)) (by omega) (by simp [w3]; omega) (by simp [w3]; exact hpe) (fun k hk => by simp [w3]; exact hf k hk)) (cwV 1 hts gX3_fail_X3_positionOf rfl rfl rfl (by decide +kernel) ⟨by decide, by decide⟩) (va_recv hC.1 hP (ci := 3) rfl (wC_obj)) hC hP hS (fun _ h => h) rfl hl.1 rfl (Nat.le_of_ble_eq_true rfl) dX3_fail_53 ⟨Nat.le_of_ble_eq_true rfl, Nat.le_of_ble_eq_true rfl⟩ (fun H locs hP hS _ _ => ?_)
        refine kV_v (w2 := wC g a n (if 0 < p then lclose (lclose (w3 s 7 nd 0 1) ((w3 s 7 nd 0 1) 0 0 p)) ((w3 s 7 nd 0 1) 0 0 (p - 1)) else lclose (w3 s 7 nd 0 1) ((w3 s 7 nd 0 1) 0 0 p))) (As := [.int (nI p)]) (b := a 0) (rest := []) (A1 := A) hfx (c_X3_closeLinksAt l hA hn6 (s := (w3 s 7 nd 0 1)) (p := p) (hs.m7 (by omega)) (by simp [w3]; omega)) (cwV 1 hts gX3_fail_X3_closeLinksAt rfl rfl rfl (by decide +kernel) ⟨by decide, by decide⟩) (va_recv hC.1 hP (ci := 3) rfl (wC_obj)) hC hP hS (fun _ h => h) rfl hl.1 rfl (Nat.le_of_ble_eq_true rfl) dX3_fail_56 ⟨Nat.le_of_ble_eq_true rfl, Nat.le_of_ble_eq_true rfl⟩ (fun H locs hP hS _ _ => ?_)
        refine k_ic (x := 1) hx hb dX3_fail_59 (by decide) ?_
        exact k_zret hx hb hr hlk (by rfl) (by decide) hP hS dX3_fail_60
      · exfalso; omega
  · exfalso; omega
set_option maxHeartbeats 4000000 in
set_option maxRecDepth 100000 in
/-- repair -/
theorem c_X3_repair (l : Launch) {g : GG} {a : Nat → Nat} {n : Nat} {A : Nat → Prop} (hA : Ap A a (5 + 7 * n)) (hn6 : n ≤ 6) {s : CS} (hs : Sh n s) (hk : 1 ≤ (tko s (s 1 0 0)).2) (hle : (outS s) 6 ((outS s) 0 0 ((outS s) 1 0 0 - 1)) 0 ≤ (outS s) 5 ((outS s) 0 0 ((outS s) 1 0 0 - 1)) 0) : Met l yX3_repair wsX3_repair ({ frames := 4, cells := 0, slots := 0, locals := 87 }) (pC g [.ref (a 0)] (wC g a n s)) (qI g (nI (s 1 0 0 - (outS s) 1 0 0)) (wC g a n (repS s)) A) 0 0 A := by
  refine k_start (cc := cX3_repair) (maxL := 3) (ret := (some .int)) (by decide) rfl (Nat.le_of_ble_eq_true rfl) ?_
  intro pr en s0 m args below meth cd hx hb hml hr hlk hts hown hin hC hP ls hl
  have hS : va_S A s0.heap s0.heap [] := va_S.rf
  have hfx : CallFix pr m cd cX3_repair 3 s0 args wsX3_repair RX3 := ⟨hx, hb, hml, hown, hts⟩
  have hu3 : ∀ w ∈ wsX30, w.before args s0 = true := fun w h => hts w ((by decide +kernel : ∀ w ∈ wsX30, w ∈ wsX3_repair) w h)
  have hl : lv_has ls 3 [(0, .ref (a 0))] := hl
  have f0 := hs.len
  have fo := hs.out hk
  have f1 := fo.len
  have f2 := hs.ch (s 1 0 0 - 1) (by omega)
  have f3 := fo.ch ((outS s) 1 0 0 - 1) (by omega)
  have f4 : (outS s) 1 0 0 ≤ s 1 0 0 := by show w3 _ 1 0 0 _ 1 0 0 ≤ _; rw [w3_eq]; exact tko_le s _
  refine lv_aload_n hx hb dX3_repair_0 rfl (lv_at hl 0 rfl) ?_
  refine va_get (D := g.1) (C := RX3) (T := TX3) (N := 6) (ci := 3) hx hb hu3 (fun _ h => h) hown hC.1 hP _ (wC_obj) rfl 2 (by decide) (hts (.fieldLink RX3 29 "SplicedChain" "chainLength" "I") (by decide +kernel)) (fun _ h9 => h9) rfl dX3_repair_1 ?_
  refine lv_istore_n (lv' := [(1, .int (nI (s 1 0 0))), (0, .ref (a 0))]) hx hb dX3_repair_4 rfl hl (by decide) rfl (fun ls hl => ?_)
  refine lv_aload_n hx hb dX3_repair_5 rfl (lv_at hl 1 rfl) ?_
  refine kV_i (r := nI (s 0 0 (s 1 0 0 - 1))) (w2 := wC g a n s) (As := []) (b := a 0) (rest := []) (A1 := A) hfx (c_X3_tail l hA hn6 (s := s) (L := s 1 0 0) (rfl) (f0)) (cwV 0 hts gX3_repair_X3_tail rfl rfl rfl (by decide +kernel) ⟨by decide, by decide⟩) (va_recv hC.1 hP (ci := 3) rfl (wC_obj)) hC hP hS (fun _ h => h) rfl hl.1 rfl (Nat.le_of_ble_eq_true rfl) dX3_repair_6 ⟨Nat.le_of_ble_eq_true rfl, Nat.le_of_ble_eq_true rfl⟩ (fun H locs hP hS _ _ => ?_)
  refine lv_istore_n (lv' := [(2, .int (nI (s 0 0 (s 1 0 0 - 1)))), (1, .int (nI (s 1 0 0))), (0, .ref (a 0))]) hx hb dX3_repair_9 rfl hl (by decide) rfl (fun ls hl => ?_)
  refine lv_aload_n hx hb dX3_repair_10 rfl (lv_at hl 2 rfl) ?_
  refine kV_v (w2 := wC g a n (outS s)) (As := []) (b := a 0) (rest := []) (A1 := A) hfx (c_X3_takeOutFailed l hA hn6 (s := s) (hs)) (cwV 0 hts gX3_repair_X3_takeOutFailed rfl rfl rfl (by decide +kernel) ⟨by decide, by decide⟩) (va_recv hC.1 hP (ci := 3) rfl (wC_obj)) hC hP hS (fun _ h => h) rfl hl.1 rfl (Nat.le_of_ble_eq_true rfl) dX3_repair_11 ⟨Nat.le_of_ble_eq_true rfl, Nat.le_of_ble_eq_true rfl⟩ (fun H locs hP hS _ _ => ?_)
  refine lv_aload_n hx hb dX3_repair_14 rfl (lv_at hl 2 rfl) ?_
  refine kV_i (r := nI ((outS s) 0 0 ((outS s) 1 0 0 - 1))) (w2 := wC g a n (outS s)) (As := []) (b := a 0) (rest := []) (A1 := A) hfx (c_X3_tail l hA hn6 (s := (outS s)) (L := (outS s) 1 0 0) (rfl) (f1)) (cwV 0 hts gX3_repair_X3_tail rfl rfl rfl (by decide +kernel) ⟨by decide, by decide⟩) (va_recv hC.1 hP (ci := 3) rfl (wC_obj)) hC hP hS (fun _ h => h) rfl hl.1 rfl (Nat.le_of_ble_eq_true rfl) dX3_repair_15 ⟨Nat.le_of_ble_eq_true rfl, Nat.le_of_ble_eq_true rfl⟩ (fun H locs hP hS _ _ => ?_)
  refine lv_iload_n hx hb dX3_repair_18 rfl (lv_at hl 0 rfl) ?_
  refine k_icmp_eq (tgt := 26) hx hb dX3_repair_19 (by decide) (by omega) (by omega) (fun c19 => ?_) (fun c19 => ?_)
  · skip
    refine lv_iload_n hx hb dX3_repair_26 rfl (lv_at hl 1 rfl) ?_
    refine lv_aload_n hx hb dX3_repair_27 rfl (lv_at hl 2 rfl) ?_
    refine va_get (D := g.1) (C := RX3) (T := TX3) (N := 6) (ci := 3) hx hb hu3 (fun _ h => h) hown hC.1 hP _ (wC_obj) rfl 2 (by decide) (hts (.fieldLink RX3 29 "SplicedChain" "chainLength" "I") (by decide +kernel)) (fun _ h9 => h9) rfl dX3_repair_28 ?_
    refine k_isub (x := s 1 0 0) (y := (outS s) 1 0 0) hx hb (by first | omega | (rw [ackAll_1]; omega)) dX3_repair_31 ?_
    exact k_iret hx hb hr hlk (by first | rfl | rw [ackAll_1]) (P_eq (congrArg (wC g a n) (by simp only [repS]; first | rw [if_pos c19] | rw [if_neg c19])) hP) hS dX3_repair_32
  · skip
    refine lv_aload_n hx hb dX3_repair_22 rfl (lv_at hl 2 rfl) ?_
    refine kV_v (w2 := wC g a n (ackAll (outS s))) (As := []) (b := a 0) (rest := []) (A1 := A) hfx (c_X3_acknowledgeAllSentAtTail l hA hn6 (s := (outS s)) (fo) (hle)) (cwV 0 hts gX3_repair_X3_acknowledgeAllSentAtTail rfl rfl rfl (by decide +kernel) ⟨by decide, by decide⟩) (va_recv hC.1 hP (ci := 3) rfl (wC_obj)) hC hP hS (fun _ h => h) rfl hl.1 rfl (Nat.le_of_ble_eq_true rfl) dX3_repair_23 ⟨Nat.le_of_ble_eq_true rfl, Nat.le_of_ble_eq_true rfl⟩ (fun H locs hP hS _ _ => ?_)
    refine lv_iload_n hx hb dX3_repair_26 rfl (lv_at hl 1 rfl) ?_
    refine lv_aload_n hx hb dX3_repair_27 rfl (lv_at hl 2 rfl) ?_
    refine va_get (D := g.1) (C := RX3) (T := TX3) (N := 6) (ci := 3) hx hb hu3 (fun _ h => h) hown hC.1 hP _ (wC_obj) rfl 2 (by decide) (hts (.fieldLink RX3 29 "SplicedChain" "chainLength" "I") (by decide +kernel)) (fun _ h9 => h9) rfl dX3_repair_28 ?_
    refine k_isub (x := s 1 0 0) (y := (ackAll (outS s)) 1 0 0) hx hb (by first | omega | (rw [ackAll_1]; omega)) dX3_repair_31 ?_
    exact k_iret hx hb hr hlk (by first | rfl | rw [ackAll_1]) (P_eq (congrArg (wC g a n) (by simp only [repS]; first | rw [if_pos c19] | rw [if_neg c19])) hP) hS dX3_repair_32
set_option maxHeartbeats 4000000 in
set_option maxRecDepth 100000 in
/-- valueAt -/
theorem c_X3_valueAt (l : Launch) {g : GG} {a : Nat → Nat} {n : Nat} {A : Nat → Prop} (hA : Ap A a (5 + 7 * n)) (hn6 : n ≤ 6) {s : CS} {nd j : Nat} (hnd : nd < n) (hj : j < 8) : Met l yX3_valueAt wsX3_valueAt ({ frames := 1, cells := 0, slots := 0, locals := 21 }) (pC g [.ref (a 0), .int (nI nd), .int (nI j)] (wC g a n s)) (qI g (nI (s 12 nd j)) (wC g a n s) A) 0 0 A := by
  refine k_start (cc := cX3_valueAt) (maxL := 3) (ret := (some .int)) (by decide) rfl (Nat.le_of_ble_eq_true rfl) ?_
  intro pr en s0 m args below meth cd hx hb hml hr hlk hts hown hin hC hP ls hl
  have hS : va_S A s0.heap s0.heap [] := va_S.rf
  have hfx : CallFix pr m cd cX3_valueAt 3 s0 args wsX3_valueAt RX3 := ⟨hx, hb, hml, hown, hts⟩
  have hu3 : ∀ w ∈ wsX30, w.before args s0 = true := fun w h => hts w ((by decide +kernel : ∀ w ∈ wsX30, w ∈ wsX3_valueAt) w h)
  have hu1 : ∀ w ∈ wsX10, w.before args s0 = true := fun w h => hts w ((by decide +kernel : ∀ w ∈ wsX10, w ∈ wsX3_valueAt) w h)
  have hl : lv_has ls 3 [(0, .ref (a 0)), (1, .int (nI nd)), (2, .int (nI j))] := hl
  refine lv_aload_n hx hb dX3_valueAt_0 rfl (lv_at hl 0 rfl) ?_
  refine lv_iload_n hx hb dX3_valueAt_1 rfl (lv_at hl 1 rfl) ?_
  refine kV_i (r := nI 1) (w2 := wC g a n s) (As := [.int (nI nd)]) (b := a 0) (rest := []) (A1 := A) hfx (c_X3_isNode l hA hn6 (s := s) (j := nd) (by omega)) (cwV 1 hts gX3_valueAt_X3_isNode rfl rfl rfl (by decide +kernel) ⟨by decide, by decide⟩) (va_recv hC.1 hP (ci := 3) rfl (wC_obj)) hC hP hS (fun _ h => h) rfl hl.1 rfl (Nat.le_of_ble_eq_true rfl) dX3_valueAt_2 ⟨Nat.le_of_ble_eq_true rfl, Nat.le_of_ble_eq_true rfl⟩ (fun H locs hP hS _ _ => ?_)
  refine k_if_eq (tgt := 15) hx hb dX3_valueAt_5 (by decide) (by omega) (fun c5 => ?_) (fun c5 => ?_)
  · exfalso; omega
  · skip
    refine lv_iload_n hx hb dX3_valueAt_8 rfl (lv_at hl 2 rfl) ?_
    refine kS_i (r := nI 1) (w2 := wC g a n s) (As := [.int (nI j)]) (rest := []) (A1 := A) hfx (c_X3_isKey l hA hn6 (s := s) (j := j) (by omega)) (va_cwS 1 hts gX3_valueAt_X3_isKey rfl rfl rfl (by decide +kernel) ⟨by decide, by decide⟩) hC hP hS (fun _ h => h) rfl hl.1 rfl (Nat.le_of_ble_eq_true rfl) dX3_valueAt_9 ⟨Nat.le_of_ble_eq_true rfl, Nat.le_of_ble_eq_true rfl⟩ (fun H locs hP hS _ _ => ?_)
    refine k_if_ne (tgt := 25) hx hb dX3_valueAt_12 (by decide) (by omega) (fun c12 => ?_) (fun c12 => ?_)
    · skip
      refine lv_aload_n hx hb dX3_valueAt_25 rfl (lv_at hl 0 rfl) ?_
      refine va_get (D := g.1) (C := RX3) (T := TX3) (N := 6) (ci := 3) hx hb hu3 (fun _ h => h) hown hC.1 hP _ (wC_obj) rfl 0 (by decide) (hts (.fieldLink RX3 22 "SplicedChain" "nodes" "[LSplicedChain$Node;") (by decide +kernel)) (fun _ h9 => h9) rfl dX3_valueAt_26 ?_
      refine lv_iload_n hx hb dX3_valueAt_29 rfl (lv_at hl 1 rfl) ?_
      refine k_aald (x := a (7 * nd + 5)) hx hb hC hP _ (wC_nodes) (j := nd) (by omega) (by omega) (by simp; omega) dX3_valueAt_30 ?_
      refine va_getN (D := g.1) (C := RX1) (T := TX1) (N := 5) (ci := 1) hx hb hu1 (fun _ h => h) hown hC.1 hP _ (wC_node (i := nd) (by omega)) rfl 0 (by decide) (hC.F (i := 66) (r := RX1) (n := "values") (d := "[I") (by decide +kernel)) (fun _ h9 => h9) rfl dX3_valueAt_31 ?_
      refine lv_iload_n hx hb dX3_valueAt_34 rfl (lv_at hl 2 rfl) ?_
      refine k_iald hx hb hC hP _ (wC_vals (i := nd) (by omega)) (j := j) (by omega) (by omega) dX3_valueAt_35 ?_
      exact k_iret hx hb hr hlk (by rfl) hP hS dX3_valueAt_36
    · exfalso; omega
set_option maxHeartbeats 4000000 in
set_option maxRecDepth 100000 in
/-- history -/
theorem c_X3_history (l : Launch) {g : GG} {a : Nat → Nat} {n : Nat} {A : Nat → Prop} (hA : Ap A a (5 + 7 * n)) (hn6 : n ≤ 6) {s : CS} {nd : Nat} (hnd : nd < n) : Met l yX3_history wsX3_history ({ frames := 1, cells := 0, slots := 0, locals := 21 }) (pC g [.ref (a 0), .int (nI nd)] (wC g a n s)) (qI g (nI (s 5 nd 0)) (wC g a n s) A) 0 0 A := by
  refine k_start (cc := cX3_history) (maxL := 2) (ret := (some .int)) (by decide) rfl (Nat.le_of_ble_eq_true rfl) ?_
  intro pr en s0 m args below meth cd hx hb hml hr hlk hts hown hin hC hP ls hl
  have hS : va_S A s0.heap s0.heap [] := va_S.rf
  have hfx : CallFix pr m cd cX3_history 2 s0 args wsX3_history RX3 := ⟨hx, hb, hml, hown, hts⟩
  have hu3 : ∀ w ∈ wsX30, w.before args s0 = true := fun w h => hts w ((by decide +kernel : ∀ w ∈ wsX30, w ∈ wsX3_history) w h)
  have hu1 : ∀ w ∈ wsX10, w.before args s0 = true := fun w h => hts w ((by decide +kernel : ∀ w ∈ wsX10, w ∈ wsX3_history) w h)
  have hl : lv_has ls 2 [(0, .ref (a 0)), (1, .int (nI nd))] := hl
  refine lv_aload_n hx hb dX3_history_0 rfl (lv_at hl 0 rfl) ?_
  refine lv_iload_n hx hb dX3_history_1 rfl (lv_at hl 1 rfl) ?_
  refine kV_i (r := nI 1) (w2 := wC g a n s) (As := [.int (nI nd)]) (b := a 0) (rest := []) (A1 := A) hfx (c_X3_isNode l hA hn6 (s := s) (j := nd) (by omega)) (cwV 1 hts gX3_history_X3_isNode rfl rfl rfl (by decide +kernel) ⟨by decide, by decide⟩) (va_recv hC.1 hP (ci := 3) rfl (wC_obj)) hC hP hS (fun _ h => h) rfl hl.1 rfl (Nat.le_of_ble_eq_true rfl) dX3_history_2 ⟨Nat.le_of_ble_eq_true rfl, Nat.le_of_ble_eq_true rfl⟩ (fun H locs hP hS _ _ => ?_)
  refine k_if_ne (tgt := 18) hx hb dX3_history_5 (by decide) (by omega) (fun c5 => ?_) (fun c5 => ?_)
  · skip
    refine lv_aload_n hx hb dX3_history_18 rfl (lv_at hl 0 rfl) ?_
    refine va_get (D := g.1) (C := RX3) (T := TX3) (N := 6) (ci := 3) hx hb hu3 (fun _ h => h) hown hC.1 hP _ (wC_obj) rfl 0 (by decide) (hts (.fieldLink RX3 22 "SplicedChain" "nodes" "[LSplicedChain$Node;") (by decide +kernel)) (fun _ h9 => h9) rfl dX3_history_19 ?_
    refine lv_iload_n hx hb dX3_history_22 rfl (lv_at hl 1 rfl) ?_
    refine k_aald (x := a (7 * nd + 5)) hx hb hC hP _ (wC_nodes) (j := nd) (by omega) (by omega) (by simp; omega) dX3_history_23 ?_
    refine va_getN (D := g.1) (C := RX1) (T := TX1) (N := 5) (ci := 1) hx hb hu1 (fun _ h => h) hown hC.1 hP _ (wC_node (i := nd) (by omega)) rfl 2 (by decide) (hC.F (i := 52) (r := RX1) (n := "history") (d := "I") (by decide +kernel)) (fun _ h9 => h9) rfl dX3_history_24 ?_
    exact k_iret hx hb hr hlk (by rfl) hP hS dX3_history_27
  · exfalso; omega
set_option maxHeartbeats 4000000 in
set_option maxRecDepth 100000 in
/-- sent -/
theorem c_X3_sent (l : Launch) {g : GG} {a : Nat → Nat} {n : Nat} {A : Nat → Prop} (hA : Ap A a (5 + 7 * n)) (hn6 : n ≤ 6) {s : CS} {nd : Nat} (hnd : nd < n) (hle : s 6 nd 0 ≤ s 5 nd 0) : Met l yX3_sent wsX3_sent ({ frames := 1, cells := 0, slots := 0, locals := 21 }) (pC g [.ref (a 0), .int (nI nd)] (wC g a n s)) (qI g (nI (s 5 nd 0 - s 6 nd 0)) (wC g a n s) A) 0 0 A := by
  refine k_start (cc := cX3_sent) (maxL := 2) (ret := (some .int)) (by decide) rfl (Nat.le_of_ble_eq_true rfl) ?_
  intro pr en s0 m args below meth cd hx hb hml hr hlk hts hown hin hC hP ls hl
  have hS : va_S A s0.heap s0.heap [] := va_S.rf
  have hfx : CallFix pr m cd cX3_sent 2 s0 args wsX3_sent RX3 := ⟨hx, hb, hml, hown, hts⟩
  have hu3 : ∀ w ∈ wsX30, w.before args s0 = true := fun w h => hts w ((by decide +kernel : ∀ w ∈ wsX30, w ∈ wsX3_sent) w h)
  have hu1 : ∀ w ∈ wsX10, w.before args s0 = true := fun w h => hts w ((by decide +kernel : ∀ w ∈ wsX10, w ∈ wsX3_sent) w h)
  have hl : lv_has ls 2 [(0, .ref (a 0)), (1, .int (nI nd))] := hl
  refine lv_aload_n hx hb dX3_sent_0 rfl (lv_at hl 0 rfl) ?_
  refine lv_iload_n hx hb dX3_sent_1 rfl (lv_at hl 1 rfl) ?_
  refine kV_i (r := nI 1) (w2 := wC g a n s) (As := [.int (nI nd)]) (b := a 0) (rest := []) (A1 := A) hfx (c_X3_isNode l hA hn6 (s := s) (j := nd) (by omega)) (cwV 1 hts gX3_sent_X3_isNode rfl rfl rfl (by decide +kernel) ⟨by decide, by decide⟩) (va_recv hC.1 hP (ci := 3) rfl (wC_obj)) hC hP hS (fun _ h => h) rfl hl.1 rfl (Nat.le_of_ble_eq_true rfl) dX3_sent_2 ⟨Nat.le_of_ble_eq_true rfl, Nat.le_of_ble_eq_true rfl⟩ (fun H locs hP hS _ _ => ?_)
  refine k_if_ne (tgt := 18) hx hb dX3_sent_5 (by decide) (by omega) (fun c5 => ?_) (fun c5 => ?_)
  · skip
    refine lv_aload_n hx hb dX3_sent_18 rfl (lv_at hl 0 rfl) ?_
    refine va_get (D := g.1) (C := RX3) (T := TX3) (N := 6) (ci := 3) hx hb hu3 (fun _ h => h) hown hC.1 hP _ (wC_obj) rfl 0 (by decide) (hts (.fieldLink RX3 22 "SplicedChain" "nodes" "[LSplicedChain$Node;") (by decide +kernel)) (fun _ h9 => h9) rfl dX3_sent_19 ?_
    refine lv_iload_n hx hb dX3_sent_22 rfl (lv_at hl 1 rfl) ?_
    refine k_aald (x := a (7 * nd + 5)) hx hb hC hP _ (wC_nodes) (j := nd) (by omega) (by omega) (by simp; omega) dX3_sent_23 ?_
    refine va_getN (D := g.1) (C := RX1) (T := TX1) (N := 5) (ci := 1) hx hb hu1 (fun _ h => h) hown hC.1 hP _ (wC_node (i := nd) (by omega)) rfl 2 (by decide) (hC.F (i := 52) (r := RX1) (n := "history") (d := "I") (by decide +kernel)) (fun _ h9 => h9) rfl dX3_sent_24 ?_
    refine lv_aload_n hx hb dX3_sent_27 rfl (lv_at hl 0 rfl) ?_
    refine va_get (D := g.1) (C := RX3) (T := TX3) (N := 6) (ci := 3) hx hb hu3 (fun _ h => h) hown hC.1 hP _ (wC_obj) rfl 0 (by decide) (hts (.fieldLink RX3 22 "SplicedChain" "nodes" "[LSplicedChain$Node;") (by decide +kernel)) (fun _ h9 => h9) rfl dX3_sent_28 ?_
    refine lv_iload_n hx hb dX3_sent_31 rfl (lv_at hl 1 rfl) ?_
    refine k_aald (x := a (7 * nd + 5)) hx hb hC hP _ (wC_nodes) (j := nd) (by omega) (by omega) (by simp; omega) dX3_sent_32 ?_
    refine va_getN (D := g.1) (C := RX1) (T := TX1) (N := 5) (ci := 1) hx hb hu1 (fun _ h => h) hown hC.1 hP _ (wC_node (i := nd) (by omega)) rfl 3 (by decide) (hC.F (i := 139) (r := RX1) (n := "acknowledged") (d := "I") (by decide +kernel)) (fun _ h9 => h9) rfl dX3_sent_33 ?_
    refine k_isub (x := s 5 nd 0) (y := s 6 nd 0) hx hb (by omega) dX3_sent_36 ?_
    exact k_iret hx hb hr hlk (by rfl) hP hS dX3_sent_37
  · exfalso; omega
set_option maxHeartbeats 4000000 in
set_option maxRecDepth 100000 in
/-- waiting -/
theorem c_X3_waiting (l : Launch) {g : GG} {a : Nat → Nat} {n : Nat} {A : Nat → Prop} (hA : Ap A a (5 + 7 * n)) (hn6 : n ≤ 6) {s : CS} {p nd : Nat} (hs : Sh n s) (hnd : nd < n) (hp : p < s 1 0 0) (hpe : s 0 0 p = nd) (hf : ∀ k, k < p → s 0 0 k ≠ nd) : Met l yX3_waiting wsX3_waiting ({ frames := 2, cells := 0, slots := 0, locals := 43 }) (pC g [.ref (a 0), .int (nI nd)] (wC g a n s)) (qI g (nI ((if 0 < p then s 10 (2 * s 0 0 (p - 1) + 0) 0 else 0) + 100 * (if p + 1 = s 1 0 0 then 0 else s 10 (2 * s 0 0 p + 1) 0))) (wC g a n s) A) 0 0 A := by
  refine k_start (cc := cX3_waiting) (maxL := 3) (ret := (some .int)) (by decide) rfl (Nat.le_of_ble_eq_true rfl) ?_
  intro pr en s0 m args below meth cd hx hb hml hr hlk hts hown hin hC hP ls hl
  have hS : va_S A s0.heap s0.heap [] := va_S.rf
  have hfx : CallFix pr m cd cX3_waiting 3 s0 args wsX3_waiting RX3 := ⟨hx, hb, hml, hown, hts⟩
  have hl : lv_has ls 3 [(0, .ref (a 0)), (1, .int (nI nd))] := hl
  refine lv_aload_n hx hb dX3_waiting_0 rfl (lv_at hl 0 rfl) ?_
  refine lv_iload_n hx hb dX3_waiting_1 rfl (lv_at hl 1 rfl) ?_
  refine kV_i (r := nI 1) (w2 := wC g a n s) (As := [.int (nI nd)]) (b := a 0) (rest := []) (A1 := A) hfx (c_X3_isNode l hA hn6 (s := s) (j := nd) (by omega)) (cwV 1 hts gX3_waiting_X3_isNode rfl rfl rfl (by decide +kernel) ⟨by decide, by decide⟩) (va_recv hC.1 hP (ci := 3) rfl (wC_obj)) hC hP hS (fun _ h => h) rfl hl.1 rfl (Nat.le_of_ble_eq_true rfl) dX3_waiting_2 ⟨Nat.le_of_ble_eq_true rfl, Nat.le_of_ble_eq_true rfl⟩ (fun H locs hP hS _ _ => ?_)
  refine k_if_ne (tgt := 18) hx hb dX3_waiting_5 (by decide) (by omega) (fun c5 => ?_) (fun c5 => ?_)
  · skip
    refine lv_aload_n hx hb dX3_waiting_18 rfl (lv_at hl 0 rfl) ?_
    refine lv_iload_n hx hb dX3_waiting_19 rfl (lv_at hl 1 rfl) ?_
    refine kV_i (r := nI p) (w2 := wC g a n s) (As := [.int (nI nd)]) (b := a 0) (rest := []) (A1 := A) hfx (c_X3_positionOf l hA hn6 (s := s) (p := p) (nd := nd) (hs) (by omega) (hp) (hpe) (hf)) (cwV 1 hts gX3_waiting_X3_positionOf rfl rfl rfl (by decide +kernel) ⟨by decide, by decide⟩) (va_recv hC.1 hP (ci := 3) rfl (wC_obj)) hC hP hS (fun _ h => h) rfl hl.1 rfl (Nat.le_of_ble_eq_true rfl) dX3_waiting_20 ⟨Nat.le_of_ble_eq_true rfl, Nat.le_of_ble_eq_true rfl⟩ (fun H locs hP hS _ _ => ?_)
    refine lv_istore_n (lv' := [(2, .int (nI p)), (0, .ref (a 0)), (1, .int (nI nd))]) hx hb dX3_waiting_23 rfl hl (by decide) rfl (fun ls hl => ?_)
    refine lv_aload_n hx hb dX3_waiting_24 rfl (lv_at hl 1 rfl) ?_
    refine lv_iload_n hx hb dX3_waiting_25 rfl (lv_at hl 0 rfl) ?_
    refine kV_i (r := nI (if 0 < p then s 10 (2 * s 0 0 (p - 1) + 0) 0 else 0)) (w2 := wC g a n s) (As := [.int (nI p)]) (b := a 0) (rest := []) (A1 := A) hfx (c_X3_updatesTowards l hA hn6 (s := s) (p := p) (hs) (by omega)) (cwV 1 hts gX3_waiting_X3_updatesTowards rfl rfl rfl (by decide +kernel) ⟨by decide, by decide⟩) (va_recv hC.1 hP (ci := 3) rfl (wC_obj)) hC hP hS (fun _ h => h) rfl hl.1 rfl (Nat.le_of_ble_eq_true rfl) dX3_waiting_26 ⟨Nat.le_of_ble_eq_true rfl, Nat.le_of_ble_eq_true rfl⟩ (fun H locs hP hS _ _ => ?_)
    refine k_bi (x := 100) hx hb dX3_waiting_29 (by decide) ?_
    refine lv_aload_n hx hb dX3_waiting_31 rfl (lv_at hl 1 rfl) ?_
    refine lv_iload_n hx hb dX3_waiting_32 rfl (lv_at hl 0 rfl) ?_
    refine kV_i (r := nI (if p + 1 = s 1 0 0 then 0 else s 10 (2 * s 0 0 p + 1) 0)) (w2 := wC g a n s) (As := [.int (nI p)]) (b := a 0) (rest := [.int (nI 100), .int (nI (if 0 < p then s 10 (2 * s 0 0 (p - 1) + 0) 0 else 0))]) (A1 := A) hfx (c_X3_acknowledgementsTowards l hA hn6 (s := s) (p := p) (hs) (by omega)) (cwV 1 hts gX3_waiting_X3_acknowledgementsTowards rfl rfl rfl (by decide +kernel) ⟨by decide, by decide⟩) (va_recv hC.1 hP (ci := 3) rfl (wC_obj)) hC hP hS (fun _ h => h) rfl hl.1 rfl (Nat.le_of_ble_eq_true rfl) dX3_waiting_33 ⟨Nat.le_of_ble_eq_true rfl, Nat.le_of_ble_eq_true rfl⟩ (fun H locs hP hS _ _ => ?_)
    refine k_imul (x := 100) (y := if p + 1 = s 1 0 0 then 0 else s 10 (2 * s 0 0 p + 1) 0) hx hb dX3_waiting_36 ?_
    refine k_iadd (x := if 0 < p then s 10 (2 * s 0 0 (p - 1) + 0) 0 else 0) (y := 100 * (if p + 1 = s 1 0 0 then 0 else s 10 (2 * s 0 0 p + 1) 0)) hx hb dX3_waiting_37 ?_
    exact k_iret hx hb hr hlk (by rfl) hP hS dX3_waiting_38
  · exfalso; omega
set_option maxHeartbeats 4000000 in
set_option maxRecDepth 100000 in
/-- waiting: out of the chain -/
theorem c_X3_waiting_no (l : Launch) {g : GG} {a : Nat → Nat} {n : Nat} {A : Nat → Prop} (hA : Ap A a (5 + 7 * n)) (hn6 : n ≤ 6) {s : CS} {nd : Nat} (hs : Sh n s) (hnd : nd < n) (hno : ∀ k, k < s 1 0 0 → s 0 0 k ≠ nd) : Met l yX3_waiting wsX3_waiting ({ frames := 2, cells := 0, slots := 0, locals := 43 }) (pC g [.ref (a 0), .int (nI nd)] (wC g a n s)) (qI g (nI 0) (wC g a n s) A) 0 0 A := by
  refine k_start (cc := cX3_waiting) (maxL := 3) (ret := (some .int)) (by decide) rfl (Nat.le_of_ble_eq_true rfl) ?_
  intro pr en s0 m args below meth cd hx hb hml hr hlk hts hown hin hC hP ls hl
  have hS : va_S A s0.heap s0.heap [] := va_S.rf
  have hfx : CallFix pr m cd cX3_waiting 3 s0 args wsX3_waiting RX3 := ⟨hx, hb, hml, hown, hts⟩
  have hl : lv_has ls 3 [(0, .ref (a 0)), (1, .int (nI nd))] := hl
  refine lv_aload_n hx hb dX3_waiting_0 rfl (lv_at hl 0 rfl) ?_
  refine lv_iload_n hx hb dX3_waiting_1 rfl (lv_at hl 1 rfl) ?_
  refine kV_i (r := nI 1) (w2 := wC g a n s) (As := [.int (nI nd)]) (b := a 0) (rest := []) (A1 := A) hfx (c_X3_isNode l hA hn6 (s := s) (j := nd) (by omega)) (cwV 1 hts gX3_waiting_X3_isNode rfl rfl rfl (by decide +kernel) ⟨by decide, by decide⟩) (va_recv hC.1 hP (ci := 3) rfl (wC_obj)) hC hP hS (fun _ h => h) rfl hl.1 rfl (Nat.le_of_ble_eq_true rfl) dX3_waiting_2 ⟨Nat.le_of_ble_eq_true rfl, Nat.le_of_ble_eq_true rfl⟩ (fun H locs hP hS _ _ => ?_)
  refine k_if_ne (tgt := 18) hx hb dX3_waiting_5 (by decide) (by omega) (fun c5 => ?_) (fun c5 => ?_)
  · skip
    refine lv_aload_n hx hb dX3_waiting_18 rfl (lv_at hl 0 rfl) ?_
    refine lv_iload_n hx hb dX3_waiting_19 rfl (lv_at hl 1 rfl) ?_
    refine kV_i (r := -1) (w2 := wC g a n s) (As := [.int (nI nd)]) (b := a 0) (rest := []) (A1 := A) hfx (c_X3_positionOf_no l hA hn6 (s := s) (nd := nd) (hs) (by omega) (hno)) (cwV 1 hts gX3_waiting_X3_positionOf rfl rfl rfl (by decide +kernel) ⟨by decide, by decide⟩) (va_recv hC.1 hP (ci := 3) rfl (wC_obj)) hC hP hS (fun _ h => h) rfl hl.1 rfl (Nat.le_of_ble_eq_true rfl) dX3_waiting_20 ⟨Nat.le_of_ble_eq_true rfl, Nat.le_of_ble_eq_true rfl⟩ (fun H locs hP hS _ _ => ?_)
    refine lv_istore_n (lv' := [(2, .int (-1)), (0, .ref (a 0)), (1, .int (nI nd))]) hx hb dX3_waiting_23 rfl hl (by decide) rfl (fun ls hl => ?_)
    refine lv_aload_n hx hb dX3_waiting_24 rfl (lv_at hl 1 rfl) ?_
    refine lv_iload_n hx hb dX3_waiting_25 rfl (lv_at hl 0 rfl) ?_
    refine kV_i (r := nI 0) (w2 := wC g a n s) (As := [.int (-1)]) (b := a 0) (rest := []) (A1 := A) hfx (c_X3_updatesTowards_no l hA hn6 (s := s)) (cwV 1 hts gX3_waiting_X3_updatesTowards rfl rfl rfl (by decide +kernel) ⟨by decide, by decide⟩) (va_recv hC.1 hP (ci := 3) rfl (wC_obj)) hC hP hS (fun _ h => h) rfl hl.1 rfl (Nat.le_of_ble_eq_true rfl) dX3_waiting_26 ⟨Nat.le_of_ble_eq_true rfl, Nat.le_of_ble_eq_true rfl⟩ (fun H locs hP hS _ _ => ?_)
    refine k_bi (x := 100) hx hb dX3_waiting_29 (by decide) ?_
    refine lv_aload_n hx hb dX3_waiting_31 rfl (lv_at hl 1 rfl) ?_
    refine lv_iload_n hx hb dX3_waiting_32 rfl (lv_at hl 0 rfl) ?_
    refine kV_i (r := nI 0) (w2 := wC g a n s) (As := [.int (-1)]) (b := a 0) (rest := [.int (nI 100), .int (nI 0)]) (A1 := A) hfx (c_X3_acknowledgementsTowards_no l hA hn6 (s := s)) (cwV 1 hts gX3_waiting_X3_acknowledgementsTowards rfl rfl rfl (by decide +kernel) ⟨by decide, by decide⟩) (va_recv hC.1 hP (ci := 3) rfl (wC_obj)) hC hP hS (fun _ h => h) rfl hl.1 rfl (Nat.le_of_ble_eq_true rfl) dX3_waiting_33 ⟨Nat.le_of_ble_eq_true rfl, Nat.le_of_ble_eq_true rfl⟩ (fun H locs hP hS _ _ => ?_)
    refine k_imul (x := 100) (y := 0) hx hb dX3_waiting_36 ?_
    refine k_iadd (x := 0) (y := 100 * 0) hx hb dX3_waiting_37 ?_
    exact k_iret hx hb hr hlk (by rfl) hP hS dX3_waiting_38
  · exfalso; omega
end
section
/-- updates or acknowledgements v + 1, .., v + j are put on a link -/
def lpN (s : CS) (i w v : Nat) : Nat → CS
  | 0 => s
  | j + 1 => lput (lpN s i w v j) i w (v + j + 1)
theorem lpN_c {s : CS} {i w v c i' k' : Nat} (h : c ≠ 10 ∧ c ≠ 11) : ∀ j, lpN s i w v j c i' k' = s c i' k'
  | 0 => rfl
  | j + 1 => by rw [lpN, lput_c h]; exact lpN_c h j
theorem Sh.lN {n : Nat} {s : CS} (h : Sh n s) {i w v : Nat} : ∀ {j : Nat}, v + j ≤ 40 → Sh n (lpN s i w v j)
  | 0, _ => h
  | j + 1, hj => (h.lN (j := j) (by omega)).lp (by omega)
def rs1 (s : CS) (x y : Nat) : CS := lpN (w3 s 8 x 0 1) x 0 (s 5 y 0) (s 5 x 0 - s 5 y 0)
def rsS (s : CS) (x y : Nat) : CS := lpN (rs1 s x y) x 1 (s 6 x 0) (s 6 y 0 - s 6 x 0)
theorem rs1_c {s : CS} {x y c i k : Nat} (h : c ≠ 10 ∧ c ≠ 11 ∧ c ≠ 8) : rs1 s x y c i k = s c i k := by
  rw [rs1, lpN_c ⟨h.1, h.2.1⟩, w3_c h.2.2]
set_option maxHeartbeats 4000000 in
set_option maxRecDepth 100000 in
/-- resync -/
theorem c_X3_resync (l : Launch) {g : GG} {a : Nat → Nat} {n : Nat} {A : Nat → Prop} (hA : Ap A a (5 + 7 * n)) (hn6 : n ≤ 6) {s : CS} {p nd : Nat} (hs : Sh n s) (hnd : nd < n) (hp : p < s 1 0 0) (hpe : s 0 0 p = nd) (hf : ∀ k, k < p → s 0 0 k ≠ nd) (hcan : p + 1 ≠ s 1 0 0 ∧ s 7 (s 0 0 p) 0 = 0 ∧ s 7 (s 0 0 (p + 1)) 0 = 0 ∧ s 8 (s 0 0 p) 0 = 0) (ha1 : s 6 (s 0 0 p) 0 ≤ s 5 (s 0 0 (p + 1)) 0) (ha2 : s 5 (s 0 0 (p + 1)) 0 ≤ s 5 (s 0 0 p) 0) (ha3 : s 6 (s 0 0 p) 0 ≤ s 6 (s 0 0 (p + 1)) 0) : Met l yX3_resync wsX3_resync ({ frames := 2, cells := 0, slots := 0, locals := 43 }) (pC g [.ref (a 0), .int (nI nd)] (wC g a n s)) (qI g (nI ((rsS s (s 0 0 p) (s 0 0 (p + 1))) 10 (2 * (s 0 0 p) + 0) 0)) (wC g a n (rsS s (s 0 0 p) (s 0 0 (p + 1)))) A) 0 0 A := by
  refine k_start (cc := cX3_resync) (maxL := 7) (ret := (some .int)) (by decide) rfl (Nat.le_of_ble_eq_true rfl) ?_
  intro pr en s0 m args below meth cd hx hb hml hr hlk hts hown hin hC hP ls hl
  have hS : va_S A s0.heap s0.heap [] := va_S.rf
  have hfx : CallFix pr m cd cX3_resync 7 s0 args wsX3_resync RX3 := ⟨hx, hb, hml, hown, hts⟩
  have hu1 : ∀ w ∈ wsX10, w.before args s0 = true := fun w h => hts w ((by decide +kernel : ∀ w ∈ wsX10, w ∈ wsX3_resync) w h)
  have hu0 : ∀ w ∈ wsX00, w.before args s0 = true := fun w h => hts w ((by decide +kernel : ∀ w ∈ wsX00, w ∈ wsX3_resync) w h)
  have hu2 : ∀ w ∈ wsX20, w.before args s0 = true := fun w h => hts w ((by decide +kernel : ∀ w ∈ wsX20, w ∈ wsX3_resync) w h)
  have hl : lv_has ls 7 [(0, .ref (a 0)), (1, .int (nI nd))] := hl
  have f0 := hs.len
  have f1 := hs.ch p (by omega)
  have f2 := hs.ch (p + 1) (by omega)
  have f3 := hs.nd _ f1
  have f4 := hs.nd _ f2
  have s1 : Sh n (w3 s 8 (s 0 0 p) 0 1) := hs.m8 (by omega)
  have s2 : Sh n (rs1 s (s 0 0 p) (s 0 0 (p + 1))) := s1.lN (by omega)
  have loop2 : ∀ (d j : Nat), s 6 (s 0 0 (p + 1)) 0 - s 6 (s 0 0 p) 0 + 1 ≤ j + d → j ≤ s 6 (s 0 0 (p + 1)) 0 - s 6 (s 0 0 p) 0 → ∀ (H : Heap) (locs : List Loc), va_P g.1 vwCl (wC g a n (lpN (rs1 s (s 0 0 p) (s 0 0 (p + 1))) (s 0 0 p) 1 (s 6 (s 0 0 p) 0) j)) H → va_S A s0.heap H locs → ∀ ls : Array Slot, lv_has ls 7 [(6, .int (nI (s 6 (s 0 0 p) 0 + j + 1))), (5, .int (nI (s 5 (s 0 0 (p + 1)) 0))), (4, .ref (a (7 * (s 0 0 (p + 1)) + 5))), (3, .ref (a (7 * (s 0 0 p) + 5))), (2, .int (nI p)), (0, .ref (a 0))] → W pr l en ({ frames := 2, cells := 0, slots := 0, locals := 43 }) s0 m args below meth cd H locs 0 0 (MQ below (qI g (nI ((rsS s (s 0 0 p) (s 0 0 (p + 1))) 10 (2 * (s 0 0 p) + 0) 0)) (wC g a n (rsS s (s 0 0 p) (s 0 0 (p + 1)))) A) args s0 0 0 A) (F0 m 117 ls []) := by
    intro d
    induction d with
    | zero => intro j h1 h2; exact absurd h1 (by omega)
    | succ d ih =>
      intro j h1 h2 H locs hP hS ls hl
      have e6 : (lpN (rs1 s (s 0 0 p) (s 0 0 (p + 1))) (s 0 0 p) 1 (s 6 (s 0 0 p) 0) j) 6 (s 0 0 (p + 1)) 0 = s 6 (s 0 0 (p + 1)) 0 := (lpN_c (by decide) j).trans (rs1_c (by decide))
      refine lv_iload hx hb dX3_resync_117 (lv_at hl 0 rfl) ?_
      refine lv_aload hx hb dX3_resync_119 (lv_at hl 2 rfl) ?_
      refine va_getN (D := g.1) (C := RX1) (T := TX1) (N := 5) (ci := 1) hx hb hu1 (fun _ h => h) hown hC.1 hP _ (wC_node (i := (s 0 0 (p + 1))) (by omega)) rfl 3 (by decide) (hC.F (i := 139) (r := RX1) (n := "acknowledged") (d := "I") (by decide +kernel)) (fun _ h9 => h9) rfl dX3_resync_121 ?_
      refine k_icmp_gt (tgt := 142) hx hb dX3_resync_124 (by decide) (by omega) (by omega) (fun c124 => ?_) (fun c124 => ?_)
      · skip
        have ej : j = s 6 (s 0 0 (p + 1)) 0 - s 6 (s 0 0 p) 0 := by omega
        refine lv_aload_n hx hb dX3_resync_142 rfl (lv_at hl 3 rfl) ?_
        refine va_getN (D := g.1) (C := RX1) (T := TX1) (N := 5) (ci := 1) hx hb hu1 (fun _ h => h) hown hC.1 hP _ (wC_node (i := (s 0 0 p)) (by omega)) rfl 1 (by decide) (hC.F (i := 88) (r := RX1) (n := "link") (d := "LSplicedChain$Link;") (by decide +kernel)) (fun _ h9 => h9) rfl dX3_resync_143 ?_
        refine va_getN (D := g.1) (C := RX0) (T := TX0) (N := 3) (ci := 0) hx hb hu0 (fun _ h => h) hown hC.1 hP _ (wC_link (i := (s 0 0 p)) (by omega)) rfl 0 (by decide) (hC.F (i := 92) (r := RX0) (n := "updates") (d := "LSplicedChain$Queue;") (by decide +kernel)) (fun _ h9 => h9) rfl dX3_resync_146 ?_
        refine va_getN (D := g.1) (C := RX2) (T := TX2) (N := 3) (ci := 2) hx hb hu2 (fun _ h => h) hown hC.1 hP _ (wC_q (i := (s 0 0 p)) (w := 0) (by omega) (by decide)) rfl 2 (by decide) (hC.F (i := 154) (r := RX2) (n := "size") (d := "I") (by decide +kernel)) (fun _ h9 => h9) rfl dX3_resync_149 ?_
        exact k_iret hx hb hr hlk (by rw [ej]; rfl) (P_eq (congrArg (wC g a n) (by rw [ej]; rfl)) hP) hS dX3_resync_152
      · skip
        refine lv_aload_n hx hb dX3_resync_127 rfl (lv_at hl 3 rfl) ?_
        refine va_getN (D := g.1) (C := RX1) (T := TX1) (N := 5) (ci := 1) hx hb hu1 (fun _ h => h) hown hC.1 hP _ (wC_node (i := (s 0 0 p)) (by omega)) rfl 1 (by decide) (hC.F (i := 88) (r := RX1) (n := "link") (d := "LSplicedChain$Link;") (by decide +kernel)) (fun _ h9 => h9) rfl dX3_resync_128 ?_
        refine lv_iload hx hb dX3_resync_131 (lv_at hl 0 rfl) ?_
        refine kV_v (w2 := wC g a n (lput (lpN (rs1 s (s 0 0 p) (s 0 0 (p + 1))) (s 0 0 p) 1 (s 6 (s 0 0 p) 0) j) ((s 0 0 p)) 1 (s 6 (s 0 0 p) 0 + j + 1))) (As := [.int (nI (s 6 (s 0 0 p) 0 + j + 1))]) (b := a (7 * (s 0 0 p) + 7)) (rest := []) (A1 := A) hfx (c_X0_putAcknowledgement l hA hn6 (s := (lpN (rs1 s (s 0 0 p) (s 0 0 (p + 1))) (s 0 0 p) 1 (s 6 (s 0 0 p) 0) j)) (i := (s 0 0 p)) (v := s 6 (s 0 0 p) 0 + j + 1) (by omega) (s2.lN (by omega))) (cwV 1 hts gX3_resync_X0_putAcknowledgement rfl rfl rfl (by decide +kernel) ⟨by decide, by decide⟩) (va_recv hC.1 hP (ci := 0) rfl (wC_link (i := (s 0 0 p)) (by omega))) hC hP hS (fun _ h => h) rfl hl.1 rfl (Nat.le_of_ble_eq_true rfl) dX3_resync_133 ⟨Nat.le_of_ble_eq_true rfl, Nat.le_of_ble_eq_true rfl⟩ (fun H locs hP hS _ _ => ?_)
        refine lv_iinc (v := nI (s 6 (s 0 0 p) 0 + j + 1 + 1)) (lv' := [(6, .int (nI (s 6 (s 0 0 p) 0 + j + 1 + 1))), (5, .int (nI (s 5 (s 0 0 (p + 1)) 0))), (4, .ref (a (7 * (s 0 0 (p + 1)) + 5))), (3, .ref (a (7 * (s 0 0 p) + 5))), (2, .int (nI p)), (0, .ref (a 0))]) hx hb dX3_resync_136 hl (k := 0) rfl (nI_add _ _) (by decide) rfl (fun ls hl => ?_)
        refine lv_goto (tgt := 117) hx hb dX3_resync_139 (by decide) ?_
        exact ih (j + 1) (by omega) (by omega) H locs hP hS ls (lv_sub hl [0, 1, 2, 3, 4, 5] rfl)
  have loop1 : ∀ (d j : Nat), s 5 (s 0 0 p) 0 - s 5 (s 0 0 (p + 1)) 0 + 1 ≤ j + d → j ≤ s 5 (s 0 0 p) 0 - s 5 (s 0 0 (p + 1)) 0 → ∀ (H : Heap) (locs : List Loc), va_P g.1 vwCl (wC g a n (lpN (w3 s 8 (s 0 0 p) 0 1) (s 0 0 p) 0 (s 5 (s 0 0 (p + 1)) 0) j)) H → va_S A s0.heap H locs → ∀ ls : Array Slot, lv_has ls 7 [(6, .int (nI (s 5 (s 0 0 (p + 1)) 0 + j + 1))), (5, .int (nI (s 5 (s 0 0 (p + 1)) 0))), (4, .ref (a (7 * (s 0 0 (p + 1)) + 5))), (3, .ref (a (7 * (s 0 0 p) + 5))), (2, .int (nI p)), (0, .ref (a 0))] → W pr l en ({ frames := 2, cells := 0, slots := 0, locals := 43 }) s0 m args below meth cd H locs 0 0 (MQ below (qI g (nI ((rsS s (s 0 0 p) (s 0 0 (p + 1))) 10 (2 * (s 0 0 p) + 0) 0)) (wC g a n (rsS s (s 0 0 p) (s 0 0 (p + 1)))) A) args s0 0 0 A) (F0 m 85 ls []) := by
    intro d
    induction d with
    | zero => intro j h1 h2; exact absurd h1 (by omega)
    | succ d ih =>
      intro j h1 h2 H locs hP hS ls hl
      have e5 : (lpN (w3 s 8 (s 0 0 p) 0 1) (s 0 0 p) 0 (s 5 (s 0 0 (p + 1)) 0) j) 5 (s 0 0 p) 0 = s 5 (s 0 0 p) 0 := (lpN_c (by decide) j).trans (w3_c (by decide))
      refine lv_iload hx hb dX3_resync_85 (lv_at hl 0 rfl) ?_
      refine lv_aload_n hx hb dX3_resync_87 rfl (lv_at hl 3 rfl) ?_
      refine va_getN (D := g.1) (C := RX1) (T := TX1) (N := 5) (ci := 1) hx hb hu1 (fun _ h => h) hown hC.1 hP _ (wC_node (i := (s 0 0 p)) (by omega)) rfl 2 (by decide) (hC.F (i := 52) (r := RX1) (n := "history") (d := "I") (by decide +kernel)) (fun _ h9 => h9) rfl dX3_resync_88 ?_
      refine k_icmp_gt (tgt := 109) hx hb dX3_resync_91 (by decide) (by omega) (by omega) (fun c91 => ?_) (fun c91 => ?_)
      · skip
        have ej : j = s 5 (s 0 0 p) 0 - s 5 (s 0 0 (p + 1)) 0 := by omega
        have hP : va_P g.1 vwCl (wC g a n (rs1 s (s 0 0 p) (s 0 0 (p + 1)))) H := P_eq (congrArg (wC g a n) (by rw [ej]; rfl)) hP
        refine lv_aload_n hx hb dX3_resync_109 rfl (lv_at hl 3 rfl) ?_
        refine va_getN (D := g.1) (C := RX1) (T := TX1) (N := 5) (ci := 1) hx hb hu1 (fun _ h => h) hown hC.1 hP _ (wC_node (i := (s 0 0 p)) (by omega)) rfl 3 (by decide) (hC.F (i := 139) (r := RX1) (n := "acknowledged") (d := "I") (by decide +kernel)) (fun _ h9 => h9) rfl dX3_resync_110 ?_
        refine k_ic (x := 1) hx hb dX3_resync_113 (by decide) ?_
        refine k_iadd (x := (rs1 s (s 0 0 p) (s 0 0 (p + 1))) 6 ((s 0 0 p)) 0) (y := 1) hx hb dX3_resync_114 ?_
        refine lv_istore (lv' := [(6, .int (nI (((rs1 s (s 0 0 p) (s 0 0 (p + 1))) 6 ((s 0 0 p)) 0) + 1))), (5, .int (nI (s 5 (s 0 0 (p + 1)) 0))), (4, .ref (a (7 * (s 0 0 (p + 1)) + 5))), (3, .ref (a (7 * (s 0 0 p) + 5))), (2, .int (nI p)), (0, .ref (a 0))]) hx hb dX3_resync_115 hl (by decide) rfl (fun ls hl => ?_)
        exact loop2 (s 6 (s 0 0 (p + 1)) 0 - s 6 (s 0 0 p) 0 + 1) 0 (by omega) (by omega) _ _ hP hS ls (by have e9 : (rs1 s (s 0 0 p) (s 0 0 (p + 1))) 6 (s 0 0 p) 0 = s 6 (s 0 0 p) 0 := rs1_c (by decide); rw [e9] at hl; exact lv_sub hl [0, 1, 2, 3, 4, 5] rfl)
      · skip
        refine lv_aload_n hx hb dX3_resync_94 rfl (lv_at hl 3 rfl) ?_
        refine va_getN (D := g.1) (C := RX1) (T := TX1) (N := 5) (ci := 1) hx hb hu1 (fun _ h => h) hown hC.1 hP _ (wC_node (i := (s 0 0 p)) (by omega)) rfl 1 (by decide) (hC.F (i := 88) (r := RX1) (n := "link") (d := "LSplicedChain$Link;") (by decide +kernel)) (fun _ h9 => h9) rfl dX3_resync_95 ?_
        refine lv_iload hx hb dX3_resync_98 (lv_at hl 0 rfl) ?_
        refine kV_v (w2 := wC g a n (lput (lpN (w3 s 8 (s 0 0 p) 0 1) (s 0 0 p) 0 (s 5 (s 0 0 (p + 1)) 0) j) ((s 0 0 p)) 0 (s 5 (s 0 0 (p + 1)) 0 + j + 1))) (As := [.int (nI (s 5 (s 0 0 (p + 1)) 0 + j + 1))]) (b := a (7 * (s 0 0 p) + 7)) (rest := []) (A1 := A) hfx (c_X0_putUpdate l hA hn6 (s := (lpN (w3 s 8 (s 0 0 p) 0 1) (s 0 0 p) 0 (s 5 (s 0 0 (p + 1)) 0) j)) (i := (s 0 0 p)) (v := s 5 (s 0 0 (p + 1)) 0 + j + 1) (by omega) (s1.lN (by omega))) (cwV 1 hts gX3_resync_X0_putUpdate rfl rfl rfl (by decide +kernel) ⟨by decide, by decide⟩) (va_recv hC.1 hP (ci := 0) rfl (wC_link (i := (s 0 0 p)) (by omega))) hC hP hS (fun _ h => h) rfl hl.1 rfl (Nat.le_of_ble_eq_true rfl) dX3_resync_100 ⟨Nat.le_of_ble_eq_true rfl, Nat.le_of_ble_eq_true rfl⟩ (fun H locs hP hS _ _ => ?_)
        refine lv_iinc (v := nI (s 5 (s 0 0 (p + 1)) 0 + j + 1 + 1)) (lv' := [(6, .int (nI (s 5 (s 0 0 (p + 1)) 0 + j + 1 + 1))), (5, .int (nI (s 5 (s 0 0 (p + 1)) 0))), (4, .ref (a (7 * (s 0 0 (p + 1)) + 5))), (3, .ref (a (7 * (s 0 0 p) + 5))), (2, .int (nI p)), (0, .ref (a 0))]) hx hb dX3_resync_103 hl (k := 0) rfl (nI_add _ _) (by decide) rfl (fun ls hl => ?_)
        refine lv_goto (tgt := 85) hx hb dX3_resync_106 (by decide) ?_
        exact ih (j + 1) (by omega) (by omega) H locs hP hS ls (lv_sub hl [0, 1, 2, 3, 4, 5] rfl)
  refine lv_aload_n hx hb dX3_resync_0 rfl (lv_at hl 0 rfl) ?_
  refine lv_iload_n hx hb dX3_resync_1 rfl (lv_at hl 1 rfl) ?_
  refine kV_i (r := nI 1) (w2 := wC g a n s) (As := [.int (nI nd)]) (b := a 0) (rest := []) (A1 := A) hfx (c_X3_isNode l hA hn6 (s := s) (j := nd) (by omega)) (cwV 1 hts gX3_resync_X3_isNode rfl rfl rfl (by decide +kernel) ⟨by decide, by decide⟩) (va_recv hC.1 hP (ci := 3) rfl (wC_obj)) hC hP hS (fun _ h => h) rfl hl.1 rfl (Nat.le_of_ble_eq_true rfl) dX3_resync_2 ⟨Nat.le_of_ble_eq_true rfl, Nat.le_of_ble_eq_true rfl⟩ (fun H locs hP hS _ _ => ?_)
  refine k_if_ne (tgt := 18) hx hb dX3_resync_5 (by decide) (by omega) (fun c5 => ?_) (fun c5 => ?_)
  · skip
    refine lv_aload_n hx hb dX3_resync_18 rfl (lv_at hl 0 rfl) ?_
    refine lv_iload_n hx hb dX3_resync_19 rfl (lv_at hl 1 rfl) ?_
    refine kV_i (r := nI p) (w2 := wC g a n s) (As := [.int (nI nd)]) (b := a 0) (rest := []) (A1 := A) hfx (c_X3_positionOf l hA hn6 (s := s) (p := p) (nd := nd) (hs) (by omega) (hp) (hpe) (hf)) (cwV 1 hts gX3_resync_X3_positionOf rfl rfl rfl (by decide +kernel) ⟨by decide, by decide⟩) (va_recv hC.1 hP (ci := 3) rfl (wC_obj)) hC hP hS (fun _ h => h) rfl hl.1 rfl (Nat.le_of_ble_eq_true rfl) dX3_resync_20 ⟨Nat.le_of_ble_eq_true rfl, Nat.le_of_ble_eq_true rfl⟩ (fun H locs hP hS _ _ => ?_)
    refine lv_istore_n (lv' := [(2, .int (nI p)), (0, .ref (a 0)), (1, .int (nI nd))]) hx hb dX3_resync_23 rfl hl (by decide) rfl (fun ls hl => ?_)
    refine lv_aload_n hx hb dX3_resync_24 rfl (lv_at hl 1 rfl) ?_
    refine lv_iload_n hx hb dX3_resync_25 rfl (lv_at hl 0 rfl) ?_
    refine kV_i (r := nI (if p + 1 ≠ s 1 0 0 ∧ s 7 (s 0 0 p) 0 = 0 ∧ s 7 (s 0 0 (p + 1)) 0 = 0 ∧ s 8 (s 0 0 p) 0 = 0 then 1 else 0)) (w2 := wC g a n s) (As := [.int (nI p)]) (b := a 0) (rest := []) (A1 := A) hfx (c_X3_canResyncAt l hA hn6 (s := s) (p := p) (hs) (by omega)) (cwV 1 hts gX3_resync_X3_canResyncAt rfl rfl rfl (by decide +kernel) ⟨by decide, by decide⟩) (va_recv hC.1 hP (ci := 3) rfl (wC_obj)) hC hP hS (fun _ h => h) rfl hl.1 rfl (Nat.le_of_ble_eq_true rfl) dX3_resync_26 ⟨Nat.le_of_ble_eq_true rfl, Nat.le_of_ble_eq_true rfl⟩ (fun H locs hP hS _ _ => ?_)
    rw [if_pos hcan]
    refine k_if_ne (tgt := 42) hx hb dX3_resync_29 (by decide) (by omega) (fun c29 => ?_) (fun c29 => ?_)
    · skip
      refine lv_aload_n hx hb dX3_resync_42 rfl (lv_at hl 1 rfl) ?_
      refine lv_iload_n hx hb dX3_resync_43 rfl (lv_at hl 0 rfl) ?_
      refine kV_r (r := a (7 * (s 0 0 p) + 5)) (w2 := wC g a n s) (As := [.int (nI p)]) (b := a 0) (rest := []) (A1 := A) hfx (c_X3_nodeAt l hA hn6 (s := s) (p := p) (x := s 0 0 p) (rfl) (by omega) (by omega)) (cwV 1 hts gX3_resync_X3_nodeAt rfl rfl rfl (by decide +kernel) ⟨by decide, by decide⟩) (va_recv hC.1 hP (ci := 3) rfl (wC_obj)) hC hP hS (fun _ h => h) rfl hl.1 rfl (Nat.le_of_ble_eq_true rfl) dX3_resync_44 ⟨Nat.le_of_ble_eq_true rfl, Nat.le_of_ble_eq_true rfl⟩ (fun H locs hP hS _ _ => ?_)
      refine lv_astore_n (lv' := [(3, .ref (a (7 * (s 0 0 p) + 5))), (2, .int (nI p)), (0, .ref (a 0)), (1, .int (nI nd))]) hx hb dX3_resync_47 rfl hl (by decide) rfl (fun ls hl => ?_)
      refine lv_aload_n hx hb dX3_resync_48 rfl (lv_at hl 2 rfl) ?_
      refine lv_iload_n hx hb dX3_resync_49 rfl (lv_at hl 1 rfl) ?_
      refine k_ic (x := 1) hx hb dX3_resync_50 (by decide) ?_
      refine k_iadd (x := p) (y := 1) hx hb dX3_resync_51 ?_
      refine kV_r (r := a (7 * (s 0 0 (p + 1)) + 5)) (w2 := wC g a n s) (As := [.int (nI (p + 1))]) (b := a 0) (rest := []) (A1 := A) hfx (c_X3_nodeAt l hA hn6 (s := s) (p := p + 1) (x := s 0 0 (p + 1)) (rfl) (by omega) (by omega)) (cwV 1 hts gX3_resync_X3_nodeAt rfl rfl rfl (by decide +kernel) ⟨by decide, by decide⟩) (va_recv hC.1 hP (ci := 3) rfl (wC_obj)) hC hP hS (fun _ h => h) rfl hl.1 rfl (Nat.le_of_ble_eq_true rfl) dX3_resync_52 ⟨Nat.le_of_ble_eq_true rfl, Nat.le_of_ble_eq_true rfl⟩ (fun H locs hP hS _ _ => ?_)
      refine lv_astore (lv' := [(4, .ref (a (7 * (s 0 0 (p + 1)) + 5))), (3, .ref (a (7 * (s 0 0 p) + 5))), (2, .int (nI p)), (0, .ref (a 0)), (1, .int (nI nd))]) hx hb dX3_resync_55 hl (by decide) rfl (fun ls hl => ?_)
      refine lv_aload_n hx hb dX3_resync_57 rfl (lv_at hl 1 rfl) ?_
      refine va_getN (D := g.1) (C := RX1) (T := TX1) (N := 5) (ci := 1) hx hb hu1 (fun _ h => h) hown hC.1 hP _ (wC_node (i := (s 0 0 p)) (by omega)) rfl 1 (by decide) (hC.F (i := 88) (r := RX1) (n := "link") (d := "LSplicedChain$Link;") (by decide +kernel)) (fun _ h9 => h9) rfl dX3_resync_58 ?_
      refine k_ic (x := 1) hx hb dX3_resync_61 (by decide) ?_
      refine va_putN (D := g.1) (v := .int (nI 1)) (ty := .boolean) (C := RX0) (T := TX0) (N := 3) (ci := 0) hx hb hu0 (fun _ h => h) tyX0 tyX0_ok nmX0 hown hC.1 hP hA.D hS _ (wC_link (i := (s 0 0 p)) (by omega)) rfl 2 (by decide) (hC.F (i := 136) (r := RX0) (n := "open") (d := "Z") (by decide +kernel)) (fun _ h9 => h9) rfl (by decide +kernel) (by decide) rfl (Nat.le_of_ble_eq_true rfl) dX3_resync_62 (fun H locs hP _ hS => ?_)
      have hP : va_P g.1 vwCl (wC g a n (w3 s 8 ((s 0 0 p)) 0 1)) H := P_eq (wp_open (i := (s 0 0 p))) hP
      refine lv_aload hx hb dX3_resync_65 (lv_at hl 0 rfl) ?_
      refine va_getN (D := g.1) (C := RX1) (T := TX1) (N := 5) (ci := 1) hx hb hu1 (fun _ h => h) hown hC.1 hP _ (wC_node (i := (s 0 0 (p + 1))) (by omega)) rfl 2 (by decide) (hC.F (i := 52) (r := RX1) (n := "history") (d := "I") (by decide +kernel)) (fun _ h9 => h9) rfl dX3_resync_67 ?_
      refine k_as (x := s 5 ((s 0 0 (p + 1))) 0) (by simp [w3]) ?_
      refine lv_aload_n hx hb dX3_resync_70 rfl (lv_at hl 1 rfl) ?_
      refine va_getN (D := g.1) (C := RX1) (T := TX1) (N := 5) (ci := 1) hx hb hu1 (fun _ h => h) hown hC.1 hP _ (wC_node (i := (s 0 0 p)) (by omega)) rfl 3 (by decide) (hC.F (i := 139) (r := RX1) (n := "acknowledged") (d := "I") (by decide +kernel)) (fun _ h9 => h9) rfl dX3_resync_71 ?_
      refine k_as (x := s 6 ((s 0 0 p)) 0) (by simp [w3]) ?_
      refine va_mmax hx hb (hml.trans hl.1.symm) hown (hts (.methodLink RX3 142 Lib.Math.max.name) (by decide +kernel)) (hts (.static Lib.Math.max.name) (by decide +kernel)) (hts (.initialized "java/lang/Math") (by decide +kernel)) (hts (.code Lib.Math.max.name Lib.Math.max.code 2 (some .int)) (by decide +kernel)) (by decide) (Nat.le_of_ble_eq_true rfl) (Nat.zero_le _) (Nat.zero_le _) dX3_resync_74 ?_
      refine k_as (x := s 5 (s 0 0 (p + 1)) 0) (by rw [if_neg]; exact fun q => absurd ((nI_ltI (by omega) (by omega)).mp q) (by omega)) ?_
      refine lv_istore (lv' := [(5, .int (nI (s 5 (s 0 0 (p + 1)) 0))), (4, .ref (a (7 * (s 0 0 (p + 1)) + 5))), (3, .ref (a (7 * (s 0 0 p) + 5))), (2, .int (nI p)), (0, .ref (a 0)), (1, .int (nI nd))]) hx hb dX3_resync_77 hl (by decide) rfl (fun ls hl => ?_)
      refine lv_iload hx hb dX3_resync_79 (lv_at hl 0 rfl) ?_
      refine k_ic (x := 1) hx hb dX3_resync_81 (by decide) ?_
      refine k_iadd (x := s 5 (s 0 0 (p + 1)) 0) (y := 1) hx hb dX3_resync_82 ?_
      refine lv_istore (lv' := [(6, .int (nI ((s 5 (s 0 0 (p + 1)) 0) + 1))), (5, .int (nI (s 5 (s 0 0 (p + 1)) 0))), (4, .ref (a (7 * (s 0 0 (p + 1)) + 5))), (3, .ref (a (7 * (s 0 0 p) + 5))), (2, .int (nI p)), (0, .ref (a 0)), (1, .int (nI nd))]) hx hb dX3_resync_83 hl (by decide) rfl (fun ls hl => ?_)
      exact loop1 (s 5 (s 0 0 p) 0 - s 5 (s 0 0 (p + 1)) 0 + 1) 0 (by omega) (by omega) _ _ hP hS ls (lv_sub hl [0, 1, 2, 3, 4, 5] rfl)
    · exfalso; omega
  · exfalso; omega
end
section
abbrev qD (g : GG) (r : UInt64) (w : va_W) (A : Nat → Prop) := va_Qd (S := Unit) (fun x _ => x = r) (fun _ t => va_P g.1 vwCl w t.heap) A
section KD
variable {p : Program} {l : Launch} {e : Env} {R : Room} {s : State} {m : MethodId} {args : Array Value} {below : List Frame} {meth : Method} {c : Code} {H : Heap} {locs : List Loc} {cells slots : Nat} {Q : State → Prop}
variable {y : MethodName} {bytes cc : ByteArray} {maxL nL mc ms n index pc : Nat} {ret : Option FieldType} {ws : List Cond} {rm : Room} {Ts : List Cond} {own C : String} {b : Addr} {As rest st0 : List Value} {ls : Array Slot} {g : GG} {A0 A1 : Nat → Prop} {w w2 : va_W} {H0 : Heap}
theorem k_dret {r v : UInt64} (hexec : p.tables.exec = Jvm.exec) (hb : c.code = cc) (hr : meth.sig.returnType = some .double) (hlk : meth.locks = false) (hv : v = r) (hP : va_P g.1 vwCl w H) (hS : va_S A0 s.heap H locs) (hdg : decode cc pc = .ok (.dreturn, 1)) : W p l e R s m args below meth c H locs cells slots (MQ below (qD g r w A0) args s cells slots A0) (F0 m pc ls [.double v]) :=
  W.dret (v := v) hexec hb hr (fun t ht hW => ⟨⟨v, (), rfl, hv, by show va_P g.1 vwCl w t.heap; rw [ht]; exact hP⟩, hS.F ht⟩) hS.2.2 hdg hlk
theorem kV_d {r : UInt64} (S : CallFix p m c cc nL s args Ts own) (hM : Met l y ws rm (pC g (.ref b :: As) w) (qD g r w2 A1) mc ms A1) (cw : CallW R s args own C index y bytes maxL ret ws rm mc ms n) (hrc : ∃ cell : Cell, H[b]? = some cell ∧ cell.vm.isStatics = false ∧ s.vm.findClass C = some cell.cls) (hC : Cx g s) (hP : va_P g.1 vwCl w H) (hS : va_S A0 H0 H locs) (hA : ∀ q, A1 q → A0 q)
    (hn : As.length = n) (hz : ls.size = nL) (hst : st0 = As.reverse ++ .ref b :: rest) (hW : (rest.map fun v => v.category).sum ≤ 8) (hdg : decode cc pc = .ok (.invokevirtual index, 3)) (hf : cells + mc ≤ R.cells ∧ slots + ms ≤ R.slots)
    (kk : ∀ (H1 : Heap) (locs1 : List Loc), va_P g.1 vwCl w2 H1 → va_S A0 H0 H1 locs1 → H.size ≤ H1.size → (∀ q : Nat, q < H.size → ¬ A1 q → H1[q]? = H[q]?) → W p l e R s m args below meth c H1 locs1 (cells + mc) (slots + ms) Q (F0 m (pc + 3) ls (.double r :: rest))) : W p l e R s m args below meth c H locs cells slots Q (F0 m pc ls st0) := by
  refine va_calld (va_runV (As := As) (rest := rest) S hM cw (kV_pre hC hP hrc) rfl hn hz hst (lv_room (rest := st0) hW) hdg hf) hS (fun q _ h => hA q h) hA (fun x u t H1 locs1 ht hvm hx hB hz1 hk1 hS1 => ?_)
  subst hx; subst ht
  exact kk _ _ hB hS1 hz1 hk1
end KD
/-- the quotients that lag can make: no NaN, and equal to themselves -/
def quo (b c : Nat) : UInt64 := FP.ddiv (FP.i2d (nI b)) (FP.i2d (nI c))
theorem quo_all : ∀ b, b < 241 → ∀ c, c < 7 → c ≠ 0 → (quo b c &&& 0x7fffffffffffffff ≤ 0x7ff0000000000000 ∧ Op.cmpValue (FP.dcmp (quo b c) (quo b c)) CmpOp.l = 0) := by decide +kernel
/-- standing nodes, the first one's history, the sum of what lacks, over the chain's first k -/
def lagF (s : CS) : Nat → Nat × Nat × Nat
  | 0 => (0, 0, 0)
  | k + 1 => if s 7 (s 0 0 k) 0 = 0 then ((lagF s k).1 + 1, (if (lagF s k).1 = 0 then s 5 (s 0 0 k) 0 else (lagF s k).2.1), (lagF s k).2.2 + ((if (lagF s k).1 = 0 then s 5 (s 0 0 k) 0 else (lagF s k).2.1) - s 5 (s 0 0 k) 0)) else lagF s k
theorem lagF_f (s : CS) : ∀ k, (lagF s k).1 ≠ 0 → ∃ j, j < k ∧ (lagF s k).2.1 = s 5 (s 0 0 j) 0
  | 0, h => absurd rfl h
  | k + 1, h => by
    by_cases h7 : s 7 (s 0 0 k) 0 = 0
    · by_cases hc : (lagF s k).1 = 0
      · exact ⟨k, by omega, by simp [lagF, h7, hc]⟩
      · obtain ⟨j, h1, h2⟩ := lagF_f s k hc
        exact ⟨j, by omega, by simp [lagF, h7, hc, h2]⟩
    · simp only [lagF, h7, if_false] at h ⊢
      obtain ⟨j, h1, h2⟩ := lagF_f s k h
      exact ⟨j, by omega, h2⟩
theorem lagF_c (s : CS) : ∀ k, (lagF s k).1 ≤ k
  | 0 => Nat.le_refl 0
  | k + 1 => by have := lagF_c s k; simp only [lagF]; split <;> simp <;> omega
theorem lagF_b (s : CS) (hh : ∀ k, s 5 (s 0 0 k) 0 ≤ 40 ∨ True) : ∀ k, (∀ j, j < k → s 5 (s 0 0 j) 0 ≤ 40) → (lagF s k).2.2 ≤ 40 * k ∧ (lagF s k).2.1 ≤ 40
  | 0, _ => ⟨Nat.le_refl 0, by simp [lagF]⟩
  | k + 1, h => by
    have h1 := lagF_b s hh k (fun j hj => h j (by omega)); have h2 := h k (by omega)
    simp only [lagF]; split
    · by_cases hc : (lagF s k).1 = 0 <;> simp [hc] <;> omega
    · omega
set_option maxHeartbeats 4000000 in
set_option maxRecDepth 100000 in
/-- lag -/
theorem c_X3_lag (l : Launch) {g : GG} {a : Nat → Nat} {n : Nat} {A : Nat → Prop} (hA : Ap A a (5 + 7 * n)) (hn6 : n ≤ 6) {s : CS} (hs : Sh n s) (hmono : ∀ j k, j ≤ k → k < s 1 0 0 → s 5 (s 0 0 k) 0 ≤ s 5 (s 0 0 j) 0) (hstand : (lagF s (s 1 0 0)).1 ≠ 0) : Met l yX3_lag wsX3_lag ({ frames := 1, cells := 0, slots := 0, locals := 21 }) (pC g [.ref (a 0)] (wC g a n s)) (qD g (quo (lagF s (s 1 0 0)).2.2 (lagF s (s 1 0 0)).1) (wC g a n s) A) 0 0 A := by
  refine k_start (cc := cX3_lag) (maxL := 6) (ret := (some .double)) (by decide) rfl (Nat.le_of_ble_eq_true rfl) ?_
  intro pr en s0 m args below meth cd hx hb hml hr hlk hts hown hin hC hP ls hl
  have hS : va_S A s0.heap s0.heap [] := va_S.rf
  have hfx : CallFix pr m cd cX3_lag 6 s0 args wsX3_lag RX3 := ⟨hx, hb, hml, hown, hts⟩
  have hu3 : ∀ w ∈ wsX30, w.before args s0 = true := fun w h => hts w ((by decide +kernel : ∀ w ∈ wsX30, w ∈ wsX3_lag) w h)
  have hu1 : ∀ w ∈ wsX10, w.before args s0 = true := fun w h => hts w ((by decide +kernel : ∀ w ∈ wsX10, w ∈ wsX3_lag) w h)
  have hl : lv_has ls 6 [(0, .ref (a 0))] := hl
  have f0 := hs.len
  have f5 : ∀ k, k < s 1 0 0 → s 5 (s 0 0 k) 0 ≤ 40 := fun k hk => (hs.nd _ (hs.ch k (by omega))).1
  have loop : ∀ (d k : Nat), s 1 0 0 + 1 ≤ k + d → k ≤ s 1 0 0 → ∀ (H : Heap) (locs : List Loc), va_P g.1 vwCl (wC g a n s) H → va_S A s0.heap H locs → ∀ ls : Array Slot, lv_has ls 6 [(4, .int (nI k)), (3, .int (nI ((lagF s k).2.2))), (2, .int (nI ((lagF s k).2.1))), (1, .int (nI ((lagF s k).1))), (0, .ref (a 0))] → W pr l en ({ frames := 1, cells := 0, slots := 0, locals := 21 }) s0 m args below meth cd H locs 0 0 (MQ below (qD g (quo (lagF s (s 1 0 0)).2.2 (lagF s (s 1 0 0)).1) (wC g a n s) A) args s0 0 0 A) (F0 m 9 ls []) := by
    intro d
    induction d with
    | zero => intro k h1 h2; exact absurd h1 (by omega)
    | succ d ih =>
      intro k h1 h2 H locs hP hS ls hl
      have g1 := lagF_c s k
      have g2 := lagF_b s (fun _ => Or.inr trivial) k (fun j hj => f5 j (by omega))
      refine lv_iload hx hb dX3_lag_9 (lv_at hl 0 rfl) ?_
      refine lv_aload_n hx hb dX3_lag_11 rfl (lv_at hl 4 rfl) ?_
      refine va_get (D := g.1) (C := RX3) (T := TX3) (N := 6) (ci := 3) hx hb hu3 (fun _ h => h) hown hC.1 hP _ (wC_obj) rfl 2 (by decide) (hts (.fieldLink RX3 29 "SplicedChain" "chainLength" "I") (by decide +kernel)) (fun _ h9 => h9) rfl dX3_lag_12 ?_
      refine k_icmp_ge (tgt := 63) hx hb dX3_lag_15 (by decide) (by omega) (by omega) (fun c15 => ?_) (fun c15 => ?_)
      · skip
        have ek : k = s 1 0 0 := by omega
        refine lv_iload_n hx hb dX3_lag_63 rfl (lv_at hl 3 rfl) ?_
        refine k_if_ne (tgt := 71) hx hb dX3_lag_64 (by decide) (by omega) (fun c64 => ?_) (fun c64 => ?_)
        · skip
          refine lv_iload_n hx hb dX3_lag_71 rfl (lv_at hl 1 rfl) ?_
          refine lv_i2d hx hb dX3_lag_72 ?_
          refine lv_iload_n hx hb dX3_lag_73 rfl (lv_at hl 3 rfl) ?_
          refine lv_i2d hx hb dX3_lag_74 ?_
          refine lv_ddiv hx hb dX3_lag_75 ((quo_all _ (by omega) _ (by omega) (by omega)).1) ?_
          exact k_dret hx hb hr hlk (by rw [ek]; rfl) hP hS dX3_lag_76
        · exact absurd (by rw [← ek]; exact c64) hstand
      · skip
        have f1 := hs.ch k (by omega)
        have f2 := hs.nd _ f1
        refine lv_aload_n hx hb dX3_lag_18 rfl (lv_at hl 4 rfl) ?_
        refine lv_iload hx hb dX3_lag_19 (lv_at hl 0 rfl) ?_
        refine kV_r (r := a (7 * (s 0 0 k) + 5)) (w2 := wC g a n s) (As := [.int (nI k)]) (b := a 0) (rest := []) (A1 := A) hfx (c_X3_nodeAt l hA hn6 (s := s) (p := k) (x := s 0 0 k) (rfl) (by omega) (by omega)) (cwV 1 hts gX3_lag_X3_nodeAt rfl rfl rfl (by decide +kernel) ⟨by decide, by decide⟩) (va_recv hC.1 hP (ci := 3) rfl (wC_obj)) hC hP hS (fun _ h => h) rfl hl.1 rfl (Nat.le_of_ble_eq_true rfl) dX3_lag_21 ⟨Nat.le_of_ble_eq_true rfl, Nat.le_of_ble_eq_true rfl⟩ (fun H locs hP hS _ _ => ?_)
        refine lv_astore (lv' := [(5, .ref (a (7 * (s 0 0 k) + 5))), (4, .int (nI k)), (3, .int (nI ((lagF s k).2.2))), (2, .int (nI ((lagF s k).2.1))), (1, .int (nI ((lagF s k).1))), (0, .ref (a 0))]) hx hb dX3_lag_24 hl (by decide) rfl (fun ls hl => ?_)
        refine lv_aload hx hb dX3_lag_26 (lv_at hl 0 rfl) ?_
        refine va_getN (D := g.1) (C := RX1) (T := TX1) (N := 5) (ci := 1) hx hb hu1 (fun _ h => h) hown hC.1 hP _ (wC_node (i := (s 0 0 k)) (by omega)) rfl 4 (by decide) (hC.F (i := 48) (r := RX1) (n := "failed") (d := "Z") (by decide +kernel)) (fun _ h9 => h9) rfl dX3_lag_28 ?_
        refine k_if_ne (tgt := 57) hx hb dX3_lag_31 (by decide) (by omega) (fun c31 => ?_) (fun c31 => ?_)
        · skip
          have z7 : ¬ s 7 (s 0 0 k) 0 = 0 := by omega
          refine lv_iinc (v := nI (k + 1)) (lv' := [(4, .int (nI (k + 1))), (5, .ref (a (7 * (s 0 0 k) + 5))), (3, .int (nI ((lagF s k).2.2))), (2, .int (nI ((lagF s k).2.1))), (1, .int (nI ((lagF s k).1))), (0, .ref (a 0))]) hx hb dX3_lag_57 hl (k := 1) rfl (nI_add _ _) (by decide) rfl (fun ls hl => ?_)
          refine lv_goto (tgt := 9) hx hb dX3_lag_60 (by decide) ?_
          exact ih (k + 1) (by omega) (by omega) H locs hP hS ls (by rw [show lagF s (k + 1) = ((lagF s k).1, (lagF s k).2.1, (lagF s k).2.2) by simp [lagF, z7]]; exact lv_sub hl [0, 2, 3, 4, 5] rfl)
        · skip
          have z7 : s 7 (s 0 0 k) 0 = 0 := by omega
          refine lv_iload_n hx hb dX3_lag_34 rfl (lv_at hl 4 rfl) ?_
          refine k_if_ne (tgt := 44) hx hb dX3_lag_35 (by decide) (by omega) (fun c35 => ?_) (fun c35 => ?_)
          · skip
            have z1 : ¬ (lagF s k).1 = 0 := by omega
            have f3 : s 5 (s 0 0 k) 0 ≤ (lagF s k).2.1 := by obtain ⟨j, q1, q2⟩ := lagF_f s k z1; rw [q2]; exact hmono j k (by omega) (by omega)
            refine lv_iinc (v := nI ((lagF s k).1 + 1)) (lv' := [(1, .int (nI ((lagF s k).1 + 1))), (5, .ref (a (7 * (s 0 0 k) + 5))), (4, .int (nI k)), (3, .int (nI ((lagF s k).2.2))), (2, .int (nI ((lagF s k).2.1))), (0, .ref (a 0))]) hx hb dX3_lag_44 hl (k := 4) rfl (nI_add _ _) (by decide) rfl (fun ls hl => ?_)
            refine lv_iload_n hx hb dX3_lag_47 rfl (lv_at hl 3 rfl) ?_
            refine lv_iload_n hx hb dX3_lag_48 rfl (lv_at hl 4 rfl) ?_
            refine lv_aload hx hb dX3_lag_49 (lv_at hl 1 rfl) ?_
            refine va_getN (D := g.1) (C := RX1) (T := TX1) (N := 5) (ci := 1) hx hb hu1 (fun _ h => h) hown hC.1 hP _ (wC_node (i := (s 0 0 k)) (by omega)) rfl 2 (by decide) (hC.F (i := 52) (r := RX1) (n := "history") (d := "I") (by decide +kernel)) (fun _ h9 => h9) rfl dX3_lag_51 ?_
            refine k_isub (x := (lagF s k).2.1) (y := s 5 ((s 0 0 k)) 0) hx hb (by omega) dX3_lag_54 ?_
            refine k_iadd (x := (lagF s k).2.2) (y := ((lagF s k).2.1) - (s 5 ((s 0 0 k)) 0)) hx hb dX3_lag_55 ?_
            refine lv_istore_n (lv' := [(3, .int (nI (((lagF s k).2.2) + (((lagF s k).2.1) - (s 5 ((s 0 0 k)) 0))))), (1, .int (nI ((lagF s k).1 + 1))), (5, .ref (a (7 * (s 0 0 k) + 5))), (4, .int (nI k)), (2, .int (nI ((lagF s k).2.1))), (0, .ref (a 0))]) hx hb dX3_lag_56 rfl hl (by decide) rfl (fun ls hl => ?_)
            refine lv_iinc (v := nI (k + 1)) (lv' := [(4, .int (nI (k + 1))), (3, .int (nI (((lagF s k).2.2) + (((lagF s k).2.1) - (s 5 ((s 0 0 k)) 0))))), (1, .int (nI ((lagF s k).1 + 1))), (5, .ref (a (7 * (s 0 0 k) + 5))), (2, .int (nI ((lagF s k).2.1))), (0, .ref (a 0))]) hx hb dX3_lag_57 hl (k := 3) rfl (nI_add _ _) (by decide) rfl (fun ls hl => ?_)
            refine lv_goto (tgt := 9) hx hb dX3_lag_60 (by decide) ?_
            exact ih (k + 1) (by omega) (by omega) H locs hP hS ls (by rw [show lagF s (k + 1) = ((lagF s k).1 + 1, (lagF s k).2.1, ((lagF s k).2.2) + (((lagF s k).2.1) - (s 5 ((s 0 0 k)) 0))) by simp [lagF, z7, z1]]; exact lv_sub hl [0, 1, 4, 2, 5] rfl)
          · skip
            have z1 : (lagF s k).1 = 0 := by omega
            refine lv_aload hx hb dX3_lag_38 (lv_at hl 0 rfl) ?_
            refine va_getN (D := g.1) (C := RX1) (T := TX1) (N := 5) (ci := 1) hx hb hu1 (fun _ h => h) hown hC.1 hP _ (wC_node (i := (s 0 0 k)) (by omega)) rfl 2 (by decide) (hC.F (i := 52) (r := RX1) (n := "history") (d := "I") (by decide +kernel)) (fun _ h9 => h9) rfl dX3_lag_40 ?_
            refine lv_istore_n (lv' := [(2, .int (nI (s 5 ((s 0 0 k)) 0))), (5, .ref (a (7 * (s 0 0 k) + 5))), (4, .int (nI k)), (3, .int (nI ((lagF s k).2.2))), (1, .int (nI ((lagF s k).1))), (0, .ref (a 0))]) hx hb dX3_lag_43 rfl hl (by decide) rfl (fun ls hl => ?_)
            refine lv_iinc (v := nI ((lagF s k).1 + 1)) (lv' := [(1, .int (nI ((lagF s k).1 + 1))), (2, .int (nI (s 5 ((s 0 0 k)) 0))), (5, .ref (a (7 * (s 0 0 k) + 5))), (4, .int (nI k)), (3, .int (nI ((lagF s k).2.2))), (0, .ref (a 0))]) hx hb dX3_lag_44 hl (k := 4) rfl (nI_add _ _) (by decide) rfl (fun ls hl => ?_)
            refine lv_iload_n hx hb dX3_lag_47 rfl (lv_at hl 4 rfl) ?_
            refine lv_iload_n hx hb dX3_lag_48 rfl (lv_at hl 1 rfl) ?_
            refine lv_aload hx hb dX3_lag_49 (lv_at hl 2 rfl) ?_
            refine va_getN (D := g.1) (C := RX1) (T := TX1) (N := 5) (ci := 1) hx hb hu1 (fun _ h => h) hown hC.1 hP _ (wC_node (i := (s 0 0 k)) (by omega)) rfl 2 (by decide) (hC.F (i := 52) (r := RX1) (n := "history") (d := "I") (by decide +kernel)) (fun _ h9 => h9) rfl dX3_lag_51 ?_
            refine k_isub (x := s 5 ((s 0 0 k)) 0) (y := s 5 ((s 0 0 k)) 0) hx hb (by omega) dX3_lag_54 ?_
            refine k_iadd (x := (lagF s k).2.2) (y := (s 5 ((s 0 0 k)) 0) - (s 5 ((s 0 0 k)) 0)) hx hb dX3_lag_55 ?_
            refine lv_istore_n (lv' := [(3, .int (nI (((lagF s k).2.2) + ((s 5 ((s 0 0 k)) 0) - (s 5 ((s 0 0 k)) 0))))), (1, .int (nI ((lagF s k).1 + 1))), (2, .int (nI (s 5 ((s 0 0 k)) 0))), (5, .ref (a (7 * (s 0 0 k) + 5))), (4, .int (nI k)), (0, .ref (a 0))]) hx hb dX3_lag_56 rfl hl (by decide) rfl (fun ls hl => ?_)
            refine lv_iinc (v := nI (k + 1)) (lv' := [(4, .int (nI (k + 1))), (3, .int (nI (((lagF s k).2.2) + ((s 5 ((s 0 0 k)) 0) - (s 5 ((s 0 0 k)) 0))))), (1, .int (nI ((lagF s k).1 + 1))), (2, .int (nI (s 5 ((s 0 0 k)) 0))), (5, .ref (a (7 * (s 0 0 k) + 5))), (0, .ref (a 0))]) hx hb dX3_lag_57 hl (k := 4) rfl (nI_add _ _) (by decide) rfl (fun ls hl => ?_)
            refine lv_goto (tgt := 9) hx hb dX3_lag_60 (by decide) ?_
            exact ih (k + 1) (by omega) (by omega) H locs hP hS ls (by rw [show lagF s (k + 1) = ((lagF s k).1 + 1, s 5 ((s 0 0 k)) 0, ((lagF s k).2.2) + ((s 5 ((s 0 0 k)) 0) - (s 5 ((s 0 0 k)) 0))) by simp [lagF, z7, z1]]; exact lv_sub hl [0, 1, 3, 2, 5] rfl)
  refine k_ic (x := 0) hx hb dX3_lag_0 (by decide) ?_
  refine lv_istore_n (lv' := [(1, .int (nI 0)), (0, .ref (a 0))]) hx hb dX3_lag_1 rfl hl (by decide) rfl (fun ls hl => ?_)
  refine k_ic (x := 0) hx hb dX3_lag_2 (by decide) ?_
  refine lv_istore_n (lv' := [(2, .int (nI 0)), (1, .int (nI 0)), (0, .ref (a 0))]) hx hb dX3_lag_3 rfl hl (by decide) rfl (fun ls hl => ?_)
  refine k_ic (x := 0) hx hb dX3_lag_4 (by decide) ?_
  refine lv_istore_n (lv' := [(3, .int (nI 0)), (2, .int (nI 0)), (1, .int (nI 0)), (0, .ref (a 0))]) hx hb dX3_lag_5 rfl hl (by decide) rfl (fun ls hl => ?_)
  refine k_ic (x := 0) hx hb dX3_lag_6 (by decide) ?_
  refine lv_istore (lv' := [(4, .int (nI 0)), (3, .int (nI 0)), (2, .int (nI 0)), (1, .int (nI 0)), (0, .ref (a 0))]) hx hb dX3_lag_7 hl (by decide) rfl (fun ls hl => ?_)
  exact loop (s 1 0 0 + 1) 0 (by omega) (by omega) _ _ hP hS ls (lv_sub hl [0, 1, 2, 3, 4] rfl)
end
section
/-! THE REFERENCE'S STATE AND WORLD. s c 0 k: c = 0 chain[k]; 1 size; 2 failed[k]; 3 open[k]; 4 history[k]; 5 acked[k]; 6 keys[k]; 7 values[k]; 8 replies; 9 thrown; 10 nodes -/
def wM (g : GG) (a : Nat → Nat) (s : CS) : va_W := [(a 0, .inr (4, [.int (nI (s 10 0 0)), .int (nI (s 9 0 0)), .int (nI (s 1 0 0)), .ref (a 1), .ref (a 2), .ref (a 3), .ref (a 4), .ref (a 5), .ref (a 6), .ref (a 7), .int (nI (s 8 0 0))])), (a 1, .inl (gI g, 6, .inl (fun k => nI (s 0 0 k)))), (a 2, .inl (gZ g, 6, .inl (fun k => nI (s 2 0 k)))), (a 3, .inl (gZ g, 6, .inl (fun k => nI (s 3 0 k)))), (a 4, .inl (gI g, 6, .inl (fun k => nI (s 4 0 k)))), (a 5, .inl (gI g, 6, .inl (fun k => nI (s 5 0 k)))), (a 6, .inl (gI g, 246, .inl (fun k => nI (s 6 0 k)))), (a 7, .inl (gI g, 246, .inl (fun k => nI (s 7 0 k))))]
theorem Ap.M {A : Nat → Prop} {a : Nat → Nat} (h : Ap A a 8) {g : GG} {s : CS} : va_D A (wM g a s) := by
  have key : ∀ (k : Nat) (q : Nat × va_E), (wM g a s)[k]? = some q → k < 8 ∧ q.1 = a k := by
    intro k q hk
    match k, hk with
    | 0, hk => cases hk; exact ⟨by omega, rfl⟩
    | 1, hk => cases hk; exact ⟨by omega, rfl⟩
    | 2, hk => cases hk; exact ⟨by omega, rfl⟩
    | 3, hk => cases hk; exact ⟨by omega, rfl⟩
    | 4, hk => cases hk; exact ⟨by omega, rfl⟩
    | 5, hk => cases hk; exact ⟨by omega, rfl⟩
    | 6, hk => cases hk; exact ⟨by omega, rfl⟩
    | 7, hk => cases hk; exact ⟨by omega, rfl⟩
    | k + 8, hk => simp [wM] at hk
  refine ⟨fun i j x y hi hj hxy => ?_, fun k q hk => ?_⟩
  · obtain ⟨h1, e1⟩ := key i x hi
    obtain ⟨h2, e2⟩ := key j y hj
    exact h.1 i j h1 h2 (by rw [← e1, ← e2]; exact hxy)
  · obtain ⟨h1, e1⟩ := key k q hk
    rw [e1]; exact h.2 k h1
theorem wM_obj {g : GG} {a : Nat → Nat} {s : CS} : (wM g a s)[0]? = some (a 0, .inr (4, [.int (nI (s 10 0 0)), .int (nI (s 9 0 0)), .int (nI (s 1 0 0)), .ref (a 1), .ref (a 2), .ref (a 3), .ref (a 4), .ref (a 5), .ref (a 6), .ref (a 7), .int (nI (s 8 0 0))])) := rfl
theorem wM_chain {g : GG} {a : Nat → Nat} {s : CS} : (wM g a s)[1]? = some (a 1, .inl (gI g, 6, .inl (fun k => nI (s 0 0 k)))) := rfl
theorem wpM_chain {g : GG} {a : Nat → Nat} {s : CS} {k0 v : Nat} : (wM g a s).set 1 (a 1, .inl (gI g, 6, .inl (upd (fun k => nI (s 0 0 k)) k0 (nI v)))) = wM g a (w3 s 0 0 k0 v) := by
  have e : upd (fun k => nI (s 0 0 k)) k0 (nI v) = fun k => nI (w3 s 0 0 k0 v 0 0 k) := by funext k; by_cases hk : k = k0 <;> simp [w3, upd, hk]
  rw [e]; simp [wM, w3]
theorem wM_failed {g : GG} {a : Nat → Nat} {s : CS} : (wM g a s)[2]? = some (a 2, .inl (gZ g, 6, .inl (fun k => nI (s 2 0 k)))) := rfl
theorem wpM_failed {g : GG} {a : Nat → Nat} {s : CS} {k0 v : Nat} : (wM g a s).set 2 (a 2, .inl (gZ g, 6, .inl (upd (fun k => nI (s 2 0 k)) k0 (nI v)))) = wM g a (w3 s 2 0 k0 v) := by
  have e : upd (fun k => nI (s 2 0 k)) k0 (nI v) = fun k => nI (w3 s 2 0 k0 v 2 0 k) := by funext k; by_cases hk : k = k0 <;> simp [w3, upd, hk]
  rw [e]; simp [wM, w3]
theorem wM_open {g : GG} {a : Nat → Nat} {s : CS} : (wM g a s)[3]? = some (a 3, .inl (gZ g, 6, .inl (fun k => nI (s 3 0 k)))) := rfl
theorem wpM_open {g : GG} {a : Nat → Nat} {s : CS} {k0 v : Nat} : (wM g a s).set 3 (a 3, .inl (gZ g, 6, .inl (upd (fun k => nI (s 3 0 k)) k0 (nI v)))) = wM g a (w3 s 3 0 k0 v) := by
  have e : upd (fun k => nI (s 3 0 k)) k0 (nI v) = fun k => nI (w3 s 3 0 k0 v 3 0 k) := by funext k; by_cases hk : k = k0 <;> simp [w3, upd, hk]
  rw [e]; simp [wM, w3]
theorem wM_history {g : GG} {a : Nat → Nat} {s : CS} : (wM g a s)[4]? = some (a 4, .inl (gI g, 6, .inl (fun k => nI (s 4 0 k)))) := rfl
theorem wpM_history {g : GG} {a : Nat → Nat} {s : CS} {k0 v : Nat} : (wM g a s).set 4 (a 4, .inl (gI g, 6, .inl (upd (fun k => nI (s 4 0 k)) k0 (nI v)))) = wM g a (w3 s 4 0 k0 v) := by
  have e : upd (fun k => nI (s 4 0 k)) k0 (nI v) = fun k => nI (w3 s 4 0 k0 v 4 0 k) := by funext k; by_cases hk : k = k0 <;> simp [w3, upd, hk]
  rw [e]; simp [wM, w3]
theorem wM_acked {g : GG} {a : Nat → Nat} {s : CS} : (wM g a s)[5]? = some (a 5, .inl (gI g, 6, .inl (fun k => nI (s 5 0 k)))) := rfl
theorem wpM_acked {g : GG} {a : Nat → Nat} {s : CS} {k0 v : Nat} : (wM g a s).set 5 (a 5, .inl (gI g, 6, .inl (upd (fun k => nI (s 5 0 k)) k0 (nI v)))) = wM g a (w3 s 5 0 k0 v) := by
  have e : upd (fun k => nI (s 5 0 k)) k0 (nI v) = fun k => nI (w3 s 5 0 k0 v 5 0 k) := by funext k; by_cases hk : k = k0 <;> simp [w3, upd, hk]
  rw [e]; simp [wM, w3]
theorem wM_keys {g : GG} {a : Nat → Nat} {s : CS} : (wM g a s)[6]? = some (a 6, .inl (gI g, 246, .inl (fun k => nI (s 6 0 k)))) := rfl
theorem wpM_keys {g : GG} {a : Nat → Nat} {s : CS} {k0 v : Nat} : (wM g a s).set 6 (a 6, .inl (gI g, 246, .inl (upd (fun k => nI (s 6 0 k)) k0 (nI v)))) = wM g a (w3 s 6 0 k0 v) := by
  have e : upd (fun k => nI (s 6 0 k)) k0 (nI v) = fun k => nI (w3 s 6 0 k0 v 6 0 k) := by funext k; by_cases hk : k = k0 <;> simp [w3, upd, hk]
  rw [e]; simp [wM, w3]
theorem wM_values {g : GG} {a : Nat → Nat} {s : CS} : (wM g a s)[7]? = some (a 7, .inl (gI g, 246, .inl (fun k => nI (s 7 0 k)))) := rfl
theorem wpM_values {g : GG} {a : Nat → Nat} {s : CS} {k0 v : Nat} : (wM g a s).set 7 (a 7, .inl (gI g, 246, .inl (upd (fun k => nI (s 7 0 k)) k0 (nI v)))) = wM g a (w3 s 7 0 k0 v) := by
  have e : upd (fun k => nI (s 7 0 k)) k0 (nI v) = fun k => nI (w3 s 7 0 k0 v 7 0 k) := by funext k; by_cases hk : k = k0 <;> simp [w3, upd, hk]
  rw [e]; simp [wM, w3]
theorem wpM_size {g : GG} {a : Nat → Nat} {s : CS} {v : Nat} : (wM g a s).set 0 (a 0, .inr (4, [.int (nI (s 10 0 0)), .int (nI (s 9 0 0)), .int (nI v), .ref (a 1), .ref (a 2), .ref (a 3), .ref (a 4), .ref (a 5), .ref (a 6), .ref (a 7), .int (nI (s 8 0 0))])) = wM g a (w3 s 1 0 0 v) := by simp [wM, w3]
theorem wpM_replies {g : GG} {a : Nat → Nat} {s : CS} {v : Nat} : (wM g a s).set 0 (a 0, .inr (4, [.int (nI (s 10 0 0)), .int (nI (s 9 0 0)), .int (nI (s 1 0 0)), .ref (a 1), .ref (a 2), .ref (a 3), .ref (a 4), .ref (a 5), .ref (a 6), .ref (a 7), .int (nI v)])) = wM g a (w3 s 8 0 0 v) := by simp [wM, w3]
theorem wpM_thrown {g : GG} {a : Nat → Nat} {s : CS} {v : Nat} : (wM g a s).set 0 (a 0, .inr (4, [.int (nI (s 10 0 0)), .int (nI v), .int (nI (s 1 0 0)), .ref (a 1), .ref (a 2), .ref (a 3), .ref (a 4), .ref (a 5), .ref (a 6), .ref (a 7), .int (nI (s 8 0 0))])) = wM g a (w3 s 9 0 0 v) := by simp [wM, w3]
theorem wpM_nodes {g : GG} {a : Nat → Nat} {s : CS} {v : Nat} : (wM g a s).set 0 (a 0, .inr (4, [.int (nI v), .int (nI (s 9 0 0)), .int (nI (s 1 0 0)), .ref (a 1), .ref (a 2), .ref (a 3), .ref (a 4), .ref (a 5), .ref (a 6), .ref (a 7), .int (nI (s 8 0 0))])) = wM g a (w3 s 10 0 0 v) := by simp [wM, w3]
def Mh (n : Nat) (s : CS) : Prop := (1 ≤ s 1 0 0 ∧ s 1 0 0 ≤ n) ∧ (n ≤ 6 ∧ s 10 0 0 = n) ∧ (∀ k, k < 6 → s 0 0 k < 6) ∧ (∀ i, i < 6 → s 4 0 i ≤ 40 ∧ s 5 0 i ≤ 40 ∧ s 2 0 i ≤ 1 ∧ s 3 0 i ≤ 1) ∧ (∀ k, s 6 0 k < 8) ∧ s 8 0 0 ≤ 40
theorem Mh.ch {n : Nat} {s : CS} (h : Mh n s) (k : Nat) (hk : k < 6) : s 0 0 k < 6 := h.2.2.1 k hk
theorem Mh.nd {n : Nat} {s : CS} (h : Mh n s) (i : Nat) (hi : i < 6) : s 4 0 i ≤ 40 ∧ s 5 0 i ≤ 40 ∧ s 2 0 i ≤ 1 ∧ s 3 0 i ≤ 1 := h.2.2.2.1 i hi
theorem Mh.key {n : Nat} {s : CS} (h : Mh n s) (k : Nat) : s 6 0 k < 8 := h.2.2.2.2.1 k
theorem Mh.rp {n : Nat} {s : CS} (h : Mh n s) : s 8 0 0 ≤ 40 := h.2.2.2.2.2
theorem Mh.m0 {n : Nat} {s : CS} (h : Mh n s) {i k v : Nat} (hv : v < 6) : Mh n (w3 s 0 i k v) := by
  obtain ⟨h1, h2, h3, h4, h5, h6⟩ := h
  refine ⟨?_, ⟨h2.1, ?_⟩, fun k' hk => ?_, fun i' hi => ?_, fun u => ?_, ?_⟩
  · simp only [w3]; refine ⟨?_, ?_⟩ <;> split <;> omega
  · have := h2.2; simp only [w3]; split <;> omega
  · have := h3 k' hk; simp only [w3]; split <;> omega
  · have := h4 i' hi; simp only [w3]; refine ⟨?_, ?_, ?_, ?_⟩ <;> split <;> omega
  · have := h5 u; simp only [w3]; split <;> omega
  · simp only [w3]; split <;> omega
theorem Mh.m1 {n : Nat} {s : CS} (h : Mh n s) {i k v : Nat} (hv : 1 ≤ v ∧ v ≤ n) : Mh n (w3 s 1 i k v) := by
  obtain ⟨h1, h2, h3, h4, h5, h6⟩ := h
  refine ⟨?_, ⟨h2.1, ?_⟩, fun k' hk => ?_, fun i' hi => ?_, fun u => ?_, ?_⟩
  · simp only [w3]; refine ⟨?_, ?_⟩ <;> split <;> omega
  · have := h2.2; simp only [w3]; split <;> omega
  · have := h3 k' hk; simp only [w3]; split <;> omega
  · have := h4 i' hi; simp only [w3]; refine ⟨?_, ?_, ?_, ?_⟩ <;> split <;> omega
  · have := h5 u; simp only [w3]; split <;> omega
  · simp only [w3]; split <;> omega
theorem Mh.m2 {n : Nat} {s : CS} (h : Mh n s) {i k v : Nat} (hv : v ≤ 1) : Mh n (w3 s 2 i k v) := by
  obtain ⟨h1, h2, h3, h4, h5, h6⟩ := h
  refine ⟨?_, ⟨h2.1, ?_⟩, fun k' hk => ?_, fun i' hi => ?_, fun u => ?_, ?_⟩
  · simp only [w3]; refine ⟨?_, ?_⟩ <;> split <;> omega
  · have := h2.2; simp only [w3]; split <;> omega
  · have := h3 k' hk; simp only [w3]; split <;> omega
  · have := h4 i' hi; simp only [w3]; refine ⟨?_, ?_, ?_, ?_⟩ <;> split <;> omega
  · have := h5 u; simp only [w3]; split <;> omega
  · simp only [w3]; split <;> omega
theorem Mh.m3 {n : Nat} {s : CS} (h : Mh n s) {i k v : Nat} (hv : v ≤ 1) : Mh n (w3 s 3 i k v) := by
  obtain ⟨h1, h2, h3, h4, h5, h6⟩ := h
  refine ⟨?_, ⟨h2.1, ?_⟩, fun k' hk => ?_, fun i' hi => ?_, fun u => ?_, ?_⟩
  · simp only [w3]; refine ⟨?_, ?_⟩ <;> split <;> omega
  · have := h2.2; simp only [w3]; split <;> omega
  · have := h3 k' hk; simp only [w3]; split <;> omega
  · have := h4 i' hi; simp only [w3]; refine ⟨?_, ?_, ?_, ?_⟩ <;> split <;> omega
  · have := h5 u; simp only [w3]; split <;> omega
  · simp only [w3]; split <;> omega
theorem Mh.m4 {n : Nat} {s : CS} (h : Mh n s) {i k v : Nat} (hv : v ≤ 40) : Mh n (w3 s 4 i k v) := by
  obtain ⟨h1, h2, h3, h4, h5, h6⟩ := h
  refine ⟨?_, ⟨h2.1, ?_⟩, fun k' hk => ?_, fun i' hi => ?_, fun u => ?_, ?_⟩
  · simp only [w3]; refine ⟨?_, ?_⟩ <;> split <;> omega
  · have := h2.2; simp only [w3]; split <;> omega
  · have := h3 k' hk; simp only [w3]; split <;> omega
  · have := h4 i' hi; simp only [w3]; refine ⟨?_, ?_, ?_, ?_⟩ <;> split <;> omega
  · have := h5 u; simp only [w3]; split <;> omega
  · simp only [w3]; split <;> omega
theorem Mh.m5 {n : Nat} {s : CS} (h : Mh n s) {i k v : Nat} (hv : v ≤ 40) : Mh n (w3 s 5 i k v) := by
  obtain ⟨h1, h2, h3, h4, h5, h6⟩ := h
  refine ⟨?_, ⟨h2.1, ?_⟩, fun k' hk => ?_, fun i' hi => ?_, fun u => ?_, ?_⟩
  · simp only [w3]; refine ⟨?_, ?_⟩ <;> split <;> omega
  · have := h2.2; simp only [w3]; split <;> omega
  · have := h3 k' hk; simp only [w3]; split <;> omega
  · have := h4 i' hi; simp only [w3]; refine ⟨?_, ?_, ?_, ?_⟩ <;> split <;> omega
  · have := h5 u; simp only [w3]; split <;> omega
  · simp only [w3]; split <;> omega
theorem Mh.m6 {n : Nat} {s : CS} (h : Mh n s) {i k v : Nat} (hv : v < 8) : Mh n (w3 s 6 i k v) := by
  obtain ⟨h1, h2, h3, h4, h5, h6⟩ := h
  refine ⟨?_, ⟨h2.1, ?_⟩, fun k' hk => ?_, fun i' hi => ?_, fun u => ?_, ?_⟩
  · simp only [w3]; refine ⟨?_, ?_⟩ <;> split <;> omega
  · have := h2.2; simp only [w3]; split <;> omega
  · have := h3 k' hk; simp only [w3]; split <;> omega
  · have := h4 i' hi; simp only [w3]; refine ⟨?_, ?_, ?_, ?_⟩ <;> split <;> omega
  · have := h5 u; simp only [w3]; split <;> omega
  · simp only [w3]; split <;> omega
theorem Mh.m7 {n : Nat} {s : CS} (h : Mh n s) {i k v : Nat}  : Mh n (w3 s 7 i k v) := by
  obtain ⟨h1, h2, h3, h4, h5, h6⟩ := h
  refine ⟨?_, ⟨h2.1, ?_⟩, fun k' hk => ?_, fun i' hi => ?_, fun u => ?_, ?_⟩
  · simp only [w3]; refine ⟨?_, ?_⟩ <;> split <;> omega
  · have := h2.2; simp only [w3]; split <;> omega
  · have := h3 k' hk; simp only [w3]; split <;> omega
  · have := h4 i' hi; simp only [w3]; refine ⟨?_, ?_, ?_, ?_⟩ <;> split <;> omega
  · have := h5 u; simp only [w3]; split <;> omega
  · simp only [w3]; split <;> omega
theorem Mh.m8 {n : Nat} {s : CS} (h : Mh n s) {i k v : Nat} (hv : v ≤ 40) : Mh n (w3 s 8 i k v) := by
  obtain ⟨h1, h2, h3, h4, h5, h6⟩ := h
  refine ⟨?_, ⟨h2.1, ?_⟩, fun k' hk => ?_, fun i' hi => ?_, fun u => ?_, ?_⟩
  · simp only [w3]; refine ⟨?_, ?_⟩ <;> split <;> omega
  · have := h2.2; simp only [w3]; split <;> omega
  · have := h3 k' hk; simp only [w3]; split <;> omega
  · have := h4 i' hi; simp only [w3]; refine ⟨?_, ?_, ?_, ?_⟩ <;> split <;> omega
  · have := h5 u; simp only [w3]; split <;> omega
  · simp only [w3]; split <;> omega
theorem Mh.m9 {n : Nat} {s : CS} (h : Mh n s) {i k v : Nat}  : Mh n (w3 s 9 i k v) := by
  obtain ⟨h1, h2, h3, h4, h5, h6⟩ := h
  refine ⟨?_, ⟨h2.1, ?_⟩, fun k' hk => ?_, fun i' hi => ?_, fun u => ?_, ?_⟩
  · simp only [w3]; refine ⟨?_, ?_⟩ <;> split <;> omega
  · have := h2.2; simp only [w3]; split <;> omega
  · have := h3 k' hk; simp only [w3]; split <;> omega
  · have := h4 i' hi; simp only [w3]; refine ⟨?_, ?_, ?_, ?_⟩ <;> split <;> omega
  · have := h5 u; simp only [w3]; split <;> omega
  · simp only [w3]; split <;> omega
def ap0 (s : CS) (nd k v : Nat) : CS := w3 (w3 (w3 s 4 0 nd (s 4 0 nd + 1)) 6 0 (41 * nd + (s 4 0 nd + 1)) k) 7 0 (41 * nd + (s 4 0 nd + 1)) v
def apM (s : CS) (nd k v : Nat) : CS := if nd = s 0 0 (s 1 0 0 - 1) then w3 (w3 (ap0 s nd k v) 5 0 nd (s 4 0 nd + 1)) 8 0 0 (s 4 0 nd + 1) else ap0 s nd k v
theorem apM_h {s : CS} {nd k v : Nat} : apM s nd k v 4 0 nd = s 4 0 nd + 1 := by unfold apM ap0; split <;> simp [w3]
def valF (s : CS) (nd k : Nat) : Nat → Nat
  | 0 => 0
  | u + 1 => if s 6 0 (41 * nd + (u + 1)) = k then s 7 0 (41 * nd + (u + 1)) else valF s nd k u
theorem k78 {x : Int32} (h : nI 8 ≤ x) : ¬ x ≤ nI 7 := fun q => absurd (Int32.le_trans h q) (by decide)
set_option maxHeartbeats 4000000 in
set_option maxRecDepth 100000 in
/-- thrown -/
theorem c_X4_thrown (l : Launch) {g : GG} {a : Nat → Nat} {n : Nat} {A : Nat → Prop} (hA : Ap A a 8) {s : CS}   : Met l yX4_thrown wsX4_thrown ({ frames := 0, cells := 0, slots := 0, locals := 0 }) (pC g [.ref (a 0)] (wM g a s)) (qI g (nI (s 9 0 0)) (wM g a s) A) 0 0 A := by
  refine k_start (cc := cX4_thrown) (maxL := 1) (ret := (some .int)) (by decide) rfl (Nat.le_of_ble_eq_true rfl) ?_
  intro pr en s0 m args below meth cd hx hb hml hr hlk hts hown hin hC hP ls hl
  have hS : va_S A s0.heap s0.heap [] := va_S.rf
  have hfx : CallFix pr m cd cX4_thrown 1 s0 args wsX4_thrown RX4 := ⟨hx, hb, hml, hown, hts⟩
  have hu4 : ∀ w ∈ wsX40, w.before args s0 = true := fun w h => hts w ((by decide +kernel : ∀ w ∈ wsX40, w ∈ wsX4_thrown) w h)
  have hl : lv_has ls 1 [(0, .ref (a 0))] := hl
  refine lv_aload_n hx hb dX4_thrown_0 rfl (lv_at hl 0 rfl) ?_
  refine va_get (D := g.1) (C := RX4) (T := TX4) (N := 11) (ci := 4) hx hb hu4 (fun _ h => h) hown hC.1 hP _ (wM_obj) rfl 1 (by decide) (hts (.fieldLink RX4 39 "SplicedChainModel" "thrown" "I") (by decide +kernel)) (fun _ h9 => h9) rfl dX4_thrown_1 ?_
  exact k_iret hx hb hr hlk (by rfl) hP hS dX4_thrown_4
set_option maxHeartbeats 4000000 in
set_option maxRecDepth 100000 in
/-- throwsIt -/
theorem c_X4_throwsIt (l : Launch) {g : GG} {a : Nat → Nat} {n : Nat} {A : Nat → Prop} (hA : Ap A a 8) {s : CS} {c : Nat} (hc : 0 < c ∧ c < 10) : Met l yX4_throwsIt wsX4_throwsIt ({ frames := 0, cells := 0, slots := 0, locals := 0 }) (pC g [.ref (a 0), .int (nI c)] (wM g a s)) (qI g (nI 1) (wM g a (w3 s 9 0 0 c)) A) 0 0 A := by
  refine k_start (cc := cX4_throwsIt) (maxL := 2) (ret := (some .boolean)) (by decide) rfl (Nat.le_of_ble_eq_true rfl) ?_
  intro pr en s0 m args below meth cd hx hb hml hr hlk hts hown hin hC hP ls hl
  have hS : va_S A s0.heap s0.heap [] := va_S.rf
  have hfx : CallFix pr m cd cX4_throwsIt 2 s0 args wsX4_throwsIt RX4 := ⟨hx, hb, hml, hown, hts⟩
  have hu4 : ∀ w ∈ wsX40, w.before args s0 = true := fun w h => hts w ((by decide +kernel : ∀ w ∈ wsX40, w ∈ wsX4_throwsIt) w h)
  have hl : lv_has ls 2 [(0, .ref (a 0)), (1, .int (nI c))] := hl
  refine lv_aload_n hx hb dX4_throwsIt_0 rfl (lv_at hl 0 rfl) ?_
  refine lv_iload_n hx hb dX4_throwsIt_1 rfl (lv_at hl 1 rfl) ?_
  refine va_put (D := g.1) (v := .int (nI c)) (ty := .int) (C := RX4) (T := TX4) (N := 11) (ci := 4) hx hb hu4 (fun _ h => h) tyX4 tyX4_ok nmX4 hown hC.1 hP hA.M hS _ (wM_obj) rfl 1 (by decide) (hts (.fieldLink RX4 39 "SplicedChainModel" "thrown" "I") (by decide +kernel)) (fun _ h9 => h9) rfl (by decide +kernel) rfl rfl (Nat.le_of_ble_eq_true rfl) dX4_throwsIt_2 (fun H locs hP _ hS => ?_)
  have hP : va_P g.1 vwCl (wM g a (w3 s 9 0 0 c)) H := P_eq wpM_thrown hP
  refine lv_iload_n hx hb dX4_throwsIt_5 rfl (lv_at hl 1 rfl) ?_
  refine k_if_eq (tgt := 13) hx hb dX4_throwsIt_6 (by decide) (by omega) (fun c6 => ?_) (fun c6 => ?_)
  · exfalso; omega
  · skip
    refine k_ic (x := 1) hx hb dX4_throwsIt_9 (by decide) ?_
    refine lv_goto (tgt := 14) hx hb dX4_throwsIt_10 (by decide) ?_
    exact k_zret hx hb hr hlk (by rfl) (by decide) hP hS dX4_throwsIt_14
set_option maxHeartbeats 4000000 in
set_option maxRecDepth 100000 in
/-- throwsIt 0 -/
theorem c_X4_throwsIt_0 (l : Launch) {g : GG} {a : Nat → Nat} {n : Nat} {A : Nat → Prop} (hA : Ap A a 8) {s : CS}   : Met l yX4_throwsIt wsX4_throwsIt ({ frames := 0, cells := 0, slots := 0, locals := 0 }) (pC g [.ref (a 0), .int (nI 0)] (wM g a s)) (qI g (nI 0) (wM g a (w3 s 9 0 0 0)) A) 0 0 A := by
  refine k_start (cc := cX4_throwsIt) (maxL := 2) (ret := (some .boolean)) (by decide) rfl (Nat.le_of_ble_eq_true rfl) ?_
  intro pr en s0 m args below meth cd hx hb hml hr hlk hts hown hin hC hP ls hl
  have hS : va_S A s0.heap s0.heap [] := va_S.rf
  have hfx : CallFix pr m cd cX4_throwsIt 2 s0 args wsX4_throwsIt RX4 := ⟨hx, hb, hml, hown, hts⟩
  have hu4 : ∀ w ∈ wsX40, w.before args s0 = true := fun w h => hts w ((by decide +kernel : ∀ w ∈ wsX40, w ∈ wsX4_throwsIt) w h)
  have hl : lv_has ls 2 [(0, .ref (a 0)), (1, .int (nI 0))] := hl
  refine lv_aload_n hx hb dX4_throwsIt_0 rfl (lv_at hl 0 rfl) ?_
  refine lv_iload_n hx hb dX4_throwsIt_1 rfl (lv_at hl 1 rfl) ?_
  refine va_put (D := g.1) (v := .int (nI 0)) (ty := .int) (C := RX4) (T := TX4) (N := 11) (ci := 4) hx hb hu4 (fun _ h => h) tyX4 tyX4_ok nmX4 hown hC.1 hP hA.M hS _ (wM_obj) rfl 1 (by decide) (hts (.fieldLink RX4 39 "SplicedChainModel" "thrown" "I") (by decide +kernel)) (fun _ h9 => h9) rfl (by decide +kernel) rfl rfl (Nat.le_of_ble_eq_true rfl) dX4_throwsIt_2 (fun H locs hP _ hS => ?_)
  have hP : va_P g.1 vwCl (wM g a (w3 s 9 0 0 0)) H := P_eq wpM_thrown hP
  refine lv_iload_n hx hb dX4_throwsIt_5 rfl (lv_at hl 1 rfl) ?_
  refine k_if_eq (tgt := 13) hx hb dX4_throwsIt_6 (by decide) (by omega) (fun c6 => ?_) (fun c6 => ?_)
  · skip
    refine k_ic (x := 0) hx hb dX4_throwsIt_13 (by decide) ?_
    exact k_zret hx hb hr hlk (by rfl) (by decide) hP hS dX4_throwsIt_14
  · exfalso; omega
set_option maxHeartbeats 4000000 in
set_option maxRecDepth 100000 in
/-- isNode -/
theorem c_X4_isNode (l : Launch) {g : GG} {a : Nat → Nat} {n : Nat} {A : Nat → Prop} (hA : Ap A a 8) {s : CS} (hm : Mh n s) {j : Nat} (hj : j < n) : Met l yX4_isNode wsX4_isNode ({ frames := 0, cells := 0, slots := 0, locals := 0 }) (pC g [.ref (a 0), .int (nI j)] (wM g a s)) (qI g (nI 1) (wM g a s) A) 0 0 A := by
  refine k_start (cc := cX4_isNode) (maxL := 2) (ret := (some .boolean)) (by decide) rfl (Nat.le_of_ble_eq_true rfl) ?_
  intro pr en s0 m args below meth cd hx hb hml hr hlk hts hown hin hC hP ls hl
  have hS : va_S A s0.heap s0.heap [] := va_S.rf
  have hfx : CallFix pr m cd cX4_isNode 2 s0 args wsX4_isNode RX4 := ⟨hx, hb, hml, hown, hts⟩
  have hu4 : ∀ w ∈ wsX40, w.before args s0 = true := fun w h => hts w ((by decide +kernel : ∀ w ∈ wsX40, w ∈ wsX4_isNode) w h)
  have hl : lv_has ls 2 [(0, .ref (a 0)), (1, .int (nI j))] := hl
  have m0 := hm.1
  have m1 := hm.2.1
  refine lv_iload_n hx hb dX4_isNode_0 rfl (lv_at hl 1 rfl) ?_
  refine lv_if_lt (tgt := 16) hx hb dX4_isNode_1 (by decide) (fun c1 => ?_) (fun c1 => ?_)
  · exact absurd c1 (nI_pos (by omega))
  · skip
    refine lv_iload_n hx hb dX4_isNode_4 rfl (lv_at hl 1 rfl) ?_
    refine lv_aload_n hx hb dX4_isNode_5 rfl (lv_at hl 0 rfl) ?_
    refine va_get (D := g.1) (C := RX4) (T := TX4) (N := 11) (ci := 4) hx hb hu4 (fun _ h => h) hown hC.1 hP _ (wM_obj) rfl 0 (by decide) (hts (.fieldLink RX4 32 "SplicedChainModel" "nodes" "I") (by decide +kernel)) (fun _ h9 => h9) rfl dX4_isNode_6 ?_
    refine k_icmp_ge (tgt := 16) hx hb dX4_isNode_9 (by decide) (by omega) (by omega) (fun c9 => ?_) (fun c9 => ?_)
    · exfalso; omega
    · skip
      refine k_ic (x := 1) hx hb dX4_isNode_12 (by decide) ?_
      refine lv_goto (tgt := 17) hx hb dX4_isNode_13 (by decide) ?_
      exact k_zret hx hb hr hlk (by rfl) (by decide) hP hS dX4_isNode_17
set_option maxHeartbeats 4000000 in
set_option maxRecDepth 100000 in
/-- isNode: no -/
theorem c_X4_isNode_no (l : Launch) {g : GG} {a : Nat → Nat} {n : Nat} {A : Nat → Prop} (hA : Ap A a 8) {s : CS} (hm : Mh n s) {x : Int32} (hbad : x < 0 ∨ nI n ≤ x) : Met l yX4_isNode wsX4_isNode ({ frames := 0, cells := 0, slots := 0, locals := 0 }) (pC g [.ref (a 0), .int (x)] (wM g a s)) (qI g (nI 0) (wM g a s) A) 0 0 A := by
  refine k_start (cc := cX4_isNode) (maxL := 2) (ret := (some .boolean)) (by decide) rfl (Nat.le_of_ble_eq_true rfl) ?_
  intro pr en s0 m args below meth cd hx hb hml hr hlk hts hown hin hC hP ls hl
  have hS : va_S A s0.heap s0.heap [] := va_S.rf
  have hfx : CallFix pr m cd cX4_isNode 2 s0 args wsX4_isNode RX4 := ⟨hx, hb, hml, hown, hts⟩
  have hu4 : ∀ w ∈ wsX40, w.before args s0 = true := fun w h => hts w ((by decide +kernel : ∀ w ∈ wsX40, w ∈ wsX4_isNode) w h)
  have hl : lv_has ls 2 [(0, .ref (a 0)), (1, .int (x))] := hl
  have m0 := hm.1
  have m1 := hm.2.1
  refine lv_iload_n hx hb dX4_isNode_0 rfl (lv_at hl 1 rfl) ?_
  refine lv_if_lt (tgt := 16) hx hb dX4_isNode_1 (by decide) (fun c1 => ?_) (fun c1 => ?_)
  · skip
    refine k_ic (x := 0) hx hb dX4_isNode_16 (by decide) ?_
    exact k_zret hx hb hr hlk (by rfl) (by decide) hP hS dX4_isNode_17
  · skip
    refine lv_iload_n hx hb dX4_isNode_4 rfl (lv_at hl 1 rfl) ?_
    refine lv_aload_n hx hb dX4_isNode_5 rfl (lv_at hl 0 rfl) ?_
    refine va_get (D := g.1) (C := RX4) (T := TX4) (N := 11) (ci := 4) hx hb hu4 (fun _ h => h) hown hC.1 hP _ (wM_obj) rfl 0 (by decide) (hts (.fieldLink RX4 32 "SplicedChainModel" "nodes" "I") (by decide +kernel)) (fun _ h9 => h9) rfl dX4_isNode_6 ?_
    refine lv_icmp_ge (tgt := 16) hx hb dX4_isNode_9 (by decide) (fun c9 => ?_) (fun c9 => ?_)
    · skip
      refine k_ic (x := 0) hx hb dX4_isNode_16 (by decide) ?_
      exact k_zret hx hb hr hlk (by rfl) (by decide) hP hS dX4_isNode_17
    · exact absurd (by rw [m1.2]; exact hbad.resolve_left c1) c9
set_option maxHeartbeats 4000000 in
set_option maxRecDepth 100000 in
/-- placeOf -/
theorem c_X4_placeOf (l : Launch) {g : GG} {a : Nat → Nat} {n : Nat} {A : Nat → Prop} (hA : Ap A a 8) {s : CS} (hm : Mh n s) {p nd : Nat} (hnd : nd < n) (hp : p < s 1 0 0) (hpe : s 0 0 p = nd) (hu : ∀ k, k < s 1 0 0 → k ≠ p → s 0 0 k ≠ nd) : Met l yX4_placeOf wsX4_placeOf ({ frames := 0, cells := 0, slots := 0, locals := 0 }) (pC g [.ref (a 0), .int (nI nd)] (wM g a s)) (qI g (nI p) (wM g a s) A) 0 0 A := by
  refine k_start (cc := cX4_placeOf) (maxL := 4) (ret := (some .int)) (by decide) rfl (Nat.le_of_ble_eq_true rfl) ?_
  intro pr en s0 m args below meth cd hx hb hml hr hlk hts hown hin hC hP ls hl
  have hS : va_S A s0.heap s0.heap [] := va_S.rf
  have hfx : CallFix pr m cd cX4_placeOf 4 s0 args wsX4_placeOf RX4 := ⟨hx, hb, hml, hown, hts⟩
  have hu4 : ∀ w ∈ wsX40, w.before args s0 = true := fun w h => hts w ((by decide +kernel : ∀ w ∈ wsX40, w ∈ wsX4_placeOf) w h)
  have hl : lv_has ls 4 [(0, .ref (a 0)), (1, .int (nI nd))] := hl
  have m0 := hm.1
  have m1 := hm.2.1
  have loop : ∀ (d k : Nat), s 1 0 0 + 1 ≤ k + d → k ≤ s 1 0 0 → ∀ P : Int32, ((k ≤ p → P = -1) ∧ (p < k → P = nI p)) → ∀ ls : Array Slot, lv_has ls 4 [(3, .int (nI k)), (2, .int (P)), (0, .ref (a 0)), (1, .int (nI nd))] → W pr l en ({ frames := 0, cells := 0, slots := 0, locals := 0 }) s0 m args below meth cd s0.heap [] 0 0 (MQ below (qI g (nI p) (wM g a s) A) args s0 0 0 A) (F0 m 4 ls []) := by
    intro d
    induction d with
    | zero => intro k h1 h2; exact absurd h1 (by omega)
    | succ d ih =>
      intro k h1 h2 P hQ ls hl
      refine lv_iload_n hx hb dX4_placeOf_4 rfl (lv_at hl 0 rfl) ?_
      refine lv_aload_n hx hb dX4_placeOf_5 rfl (lv_at hl 2 rfl) ?_
      refine va_get (D := g.1) (C := RX4) (T := TX4) (N := 11) (ci := 4) hx hb hu4 (fun _ h => h) hown hC.1 hP _ (wM_obj) rfl 2 (by decide) (hts (.fieldLink RX4 36 "SplicedChainModel" "size" "I") (by decide +kernel)) (fun _ h9 => h9) rfl dX4_placeOf_6 ?_
      refine k_icmp_ge (tgt := 34) hx hb dX4_placeOf_9 (by decide) (by omega) (by omega) (fun c9 => ?_) (fun c9 => ?_)
      · skip
        refine lv_iload_n hx hb dX4_placeOf_34 rfl (lv_at hl 1 rfl) ?_
        exact k_iret hx hb hr hlk (by exact hQ.2 (by omega)) hP hS dX4_placeOf_35
      · skip
        have f1 := hm.ch k (by omega)
        refine lv_aload_n hx hb dX4_placeOf_12 rfl (lv_at hl 2 rfl) ?_
        refine va_get (D := g.1) (C := RX4) (T := TX4) (N := 11) (ci := 4) hx hb hu4 (fun _ h => h) hown hC.1 hP _ (wM_obj) rfl 3 (by decide) (hts (.fieldLink RX4 7 "SplicedChainModel" "chain" "[I") (by decide +kernel)) (fun _ h9 => h9) rfl dX4_placeOf_13 ?_
        refine lv_iload_n hx hb dX4_placeOf_16 rfl (lv_at hl 0 rfl) ?_
        refine k_iald hx hb hC hP _ (wM_chain) (j := k) (by omega) (by omega) dX4_placeOf_17 ?_
        refine lv_iload_n hx hb dX4_placeOf_18 rfl (lv_at hl 3 rfl) ?_
        refine k_icmp_ne (tgt := 26) hx hb dX4_placeOf_19 (by decide) (by omega) (by omega) (fun c19 => ?_) (fun c19 => ?_)
        · skip
          have f2 : k ≠ p := fun q => c19 (by rw [q]; exact hpe)
          refine lv_iload_n hx hb dX4_placeOf_26 rfl (lv_at hl 1 rfl) ?_
          refine lv_istore_n (lv' := [(2, .int (P)), (3, .int (nI k)), (0, .ref (a 0)), (1, .int (nI nd))]) hx hb dX4_placeOf_27 rfl hl (by decide) rfl (fun ls hl => ?_)
          refine lv_iinc (v := nI (k + 1)) (lv' := [(3, .int (nI (k + 1))), (2, .int (P)), (0, .ref (a 0)), (1, .int (nI nd))]) hx hb dX4_placeOf_28 hl (k := 1) rfl (nI_add _ _) (by decide) rfl (fun ls hl => ?_)
          refine lv_goto (tgt := 4) hx hb dX4_placeOf_31 (by decide) ?_
          exact ih (k + 1) (by omega) (by omega) P ⟨fun q => hQ.1 (by omega), fun q => hQ.2 (by omega)⟩ ls (lv_sub hl [0, 1, 2, 3] rfl)
        · skip
          have f2 : k = p := Decidable.byContradiction fun q => hu k (by omega) q c19
          refine lv_iload_n hx hb dX4_placeOf_22 rfl (lv_at hl 0 rfl) ?_
          refine lv_goto (tgt := 27) hx hb dX4_placeOf_23 (by decide) ?_
          refine lv_istore_n (lv' := [(2, .int (nI k)), (3, .int (nI k)), (0, .ref (a 0)), (1, .int (nI nd))]) hx hb dX4_placeOf_27 rfl hl (by decide) rfl (fun ls hl => ?_)
          refine lv_iinc (v := nI (k + 1)) (lv' := [(3, .int (nI (k + 1))), (2, .int (nI k)), (0, .ref (a 0)), (1, .int (nI nd))]) hx hb dX4_placeOf_28 hl (k := 1) rfl (nI_add _ _) (by decide) rfl (fun ls hl => ?_)
          refine lv_goto (tgt := 4) hx hb dX4_placeOf_31 (by decide) ?_
          exact ih (k + 1) (by omega) (by omega) (nI k) ⟨fun q => absurd q (by omega), fun _ => by rw [f2]⟩ ls (lv_sub hl [0, 1, 2, 3] rfl)
  refine lv_iconst (v := -1) hx hb dX4_placeOf_0 (by decide) ?_
  refine lv_istore_n (lv' := [(2, .int (-1)), (0, .ref (a 0)), (1, .int (nI nd))]) hx hb dX4_placeOf_1 rfl hl (by decide) rfl (fun ls hl => ?_)
  refine k_ic (x := 0) hx hb dX4_placeOf_2 (by decide) ?_
  refine lv_istore_n (lv' := [(3, .int (nI 0)), (2, .int (-1)), (0, .ref (a 0)), (1, .int (nI nd))]) hx hb dX4_placeOf_3 rfl hl (by decide) rfl (fun ls hl => ?_)
  exact loop (s 1 0 0 + 1) 0 (by omega) (by omega) (-1) ⟨fun _ => rfl, fun q => absurd q (by omega)⟩ ls (lv_sub hl [0, 1, 2, 3] rfl)
set_option maxHeartbeats 4000000 in
set_option maxRecDepth 100000 in
/-- placeOf -/
theorem c_X4_placeOf_no (l : Launch) {g : GG} {a : Nat → Nat} {n : Nat} {A : Nat → Prop} (hA : Ap A a 8) {s : CS} (hm : Mh n s) {nd : Nat} (hnd : nd < n) (hno : ∀ k, k < s 1 0 0 → s 0 0 k ≠ nd) : Met l yX4_placeOf wsX4_placeOf ({ frames := 0, cells := 0, slots := 0, locals := 0 }) (pC g [.ref (a 0), .int (nI nd)] (wM g a s)) (qI g (-1) (wM g a s) A) 0 0 A := by
  refine k_start (cc := cX4_placeOf) (maxL := 4) (ret := (some .int)) (by decide) rfl (Nat.le_of_ble_eq_true rfl) ?_
  intro pr en s0 m args below meth cd hx hb hml hr hlk hts hown hin hC hP ls hl
  have hS : va_S A s0.heap s0.heap [] := va_S.rf
  have hfx : CallFix pr m cd cX4_placeOf 4 s0 args wsX4_placeOf RX4 := ⟨hx, hb, hml, hown, hts⟩
  have hu4 : ∀ w ∈ wsX40, w.before args s0 = true := fun w h => hts w ((by decide +kernel : ∀ w ∈ wsX40, w ∈ wsX4_placeOf) w h)
  have hl : lv_has ls 4 [(0, .ref (a 0)), (1, .int (nI nd))] := hl
  have m0 := hm.1
  have m1 := hm.2.1
  have loop : ∀ (d k : Nat), s 1 0 0 + 1 ≤ k + d → k ≤ s 1 0 0 → ∀ P : Int32, P = -1 → ∀ ls : Array Slot, lv_has ls 4 [(3, .int (nI k)), (2, .int (P)), (0, .ref (a 0)), (1, .int (nI nd))] → W pr l en ({ frames := 0, cells := 0, slots := 0, locals := 0 }) s0 m args below meth cd s0.heap [] 0 0 (MQ below (qI g (-1) (wM g a s) A) args s0 0 0 A) (F0 m 4 ls []) := by
    intro d
    induction d with
    | zero => intro k h1 h2; exact absurd h1 (by omega)
    | succ d ih =>
      intro k h1 h2 P hQ ls hl
      refine lv_iload_n hx hb dX4_placeOf_4 rfl (lv_at hl 0 rfl) ?_
      refine lv_aload_n hx hb dX4_placeOf_5 rfl (lv_at hl 2 rfl) ?_
      refine va_get (D := g.1) (C := RX4) (T := TX4) (N := 11) (ci := 4) hx hb hu4 (fun _ h => h) hown hC.1 hP _ (wM_obj) rfl 2 (by decide) (hts (.fieldLink RX4 36 "SplicedChainModel" "size" "I") (by decide +kernel)) (fun _ h9 => h9) rfl dX4_placeOf_6 ?_
      refine k_icmp_ge (tgt := 34) hx hb dX4_placeOf_9 (by decide) (by omega) (by omega) (fun c9 => ?_) (fun c9 => ?_)
      · skip
        refine lv_iload_n hx hb dX4_placeOf_34 rfl (lv_at hl 1 rfl) ?_
        exact k_iret hx hb hr hlk (by exact hQ) hP hS dX4_placeOf_35
      · skip
        have f1 := hm.ch k (by omega)
        refine lv_aload_n hx hb dX4_placeOf_12 rfl (lv_at hl 2 rfl) ?_
        refine va_get (D := g.1) (C := RX4) (T := TX4) (N := 11) (ci := 4) hx hb hu4 (fun _ h => h) hown hC.1 hP _ (wM_obj) rfl 3 (by decide) (hts (.fieldLink RX4 7 "SplicedChainModel" "chain" "[I") (by decide +kernel)) (fun _ h9 => h9) rfl dX4_placeOf_13 ?_
        refine lv_iload_n hx hb dX4_placeOf_16 rfl (lv_at hl 0 rfl) ?_
        refine k_iald hx hb hC hP _ (wM_chain) (j := k) (by omega) (by omega) dX4_placeOf_17 ?_
        refine lv_iload_n hx hb dX4_placeOf_18 rfl (lv_at hl 3 rfl) ?_
        refine k_icmp_ne (tgt := 26) hx hb dX4_placeOf_19 (by decide) (by omega) (by omega) (fun c19 => ?_) (fun c19 => ?_)
        · skip
          refine lv_iload_n hx hb dX4_placeOf_26 rfl (lv_at hl 1 rfl) ?_
          refine lv_istore_n (lv' := [(2, .int (P)), (3, .int (nI k)), (0, .ref (a 0)), (1, .int (nI nd))]) hx hb dX4_placeOf_27 rfl hl (by decide) rfl (fun ls hl => ?_)
          refine lv_iinc (v := nI (k + 1)) (lv' := [(3, .int (nI (k + 1))), (2, .int (P)), (0, .ref (a 0)), (1, .int (nI nd))]) hx hb dX4_placeOf_28 hl (k := 1) rfl (nI_add _ _) (by decide) rfl (fun ls hl => ?_)
          refine lv_goto (tgt := 4) hx hb dX4_placeOf_31 (by decide) ?_
          exact ih (k + 1) (by omega) (by omega) P hQ ls (lv_sub hl [0, 1, 2, 3] rfl)
        · exact absurd c19 (hno k (by omega))
  refine lv_iconst (v := -1) hx hb dX4_placeOf_0 (by decide) ?_
  refine lv_istore_n (lv' := [(2, .int (-1)), (0, .ref (a 0)), (1, .int (nI nd))]) hx hb dX4_placeOf_1 rfl hl (by decide) rfl (fun ls hl => ?_)
  refine k_ic (x := 0) hx hb dX4_placeOf_2 (by decide) ?_
  refine lv_istore_n (lv' := [(3, .int (nI 0)), (2, .int (-1)), (0, .ref (a 0)), (1, .int (nI nd))]) hx hb dX4_placeOf_3 rfl hl (by decide) rfl (fun ls hl => ?_)
  exact loop (s 1 0 0 + 1) 0 (by omega) (by omega) (-1) rfl ls (lv_sub hl [0, 1, 2, 3] rfl)
set_option maxHeartbeats 4000000 in
set_option maxRecDepth 100000 in
/-- first -/
theorem c_X4_first (l : Launch) {g : GG} {a : Nat → Nat} {n : Nat} {A : Nat → Prop} (hA : Ap A a 8) {s : CS} {x : Nat} (hxe : s 0 0 0 = x) : Met l yX4_first wsX4_first ({ frames := 0, cells := 0, slots := 0, locals := 0 }) (pC g [.ref (a 0)] (wM g a s)) (qI g (nI x) (wM g a s) A) 0 0 A := by
  refine k_start (cc := cX4_first) (maxL := 1) (ret := (some .int)) (by decide) rfl (Nat.le_of_ble_eq_true rfl) ?_
  intro pr en s0 m args below meth cd hx hb hml hr hlk hts hown hin hC hP ls hl
  have hS : va_S A s0.heap s0.heap [] := va_S.rf
  have hfx : CallFix pr m cd cX4_first 1 s0 args wsX4_first RX4 := ⟨hx, hb, hml, hown, hts⟩
  have hu4 : ∀ w ∈ wsX40, w.before args s0 = true := fun w h => hts w ((by decide +kernel : ∀ w ∈ wsX40, w ∈ wsX4_first) w h)
  have hl : lv_has ls 1 [(0, .ref (a 0))] := hl
  subst hxe
  refine lv_aload_n hx hb dX4_first_0 rfl (lv_at hl 0 rfl) ?_
  refine va_get (D := g.1) (C := RX4) (T := TX4) (N := 11) (ci := 4) hx hb hu4 (fun _ h => h) hown hC.1 hP _ (wM_obj) rfl 3 (by decide) (hts (.fieldLink RX4 7 "SplicedChainModel" "chain" "[I") (by decide +kernel)) (fun _ h9 => h9) rfl dX4_first_1 ?_
  refine k_ic (x := 0) hx hb dX4_first_4 (by decide) ?_
  refine k_iald hx hb hC hP _ (wM_chain) (j := 0) (by omega) (by omega) dX4_first_5 ?_
  exact k_iret hx hb hr hlk (by rfl) hP hS dX4_first_6
set_option maxHeartbeats 4000000 in
set_option maxRecDepth 100000 in
/-- last -/
theorem c_X4_last (l : Launch) {g : GG} {a : Nat → Nat} {n : Nat} {A : Nat → Prop} (hA : Ap A a 8) {s : CS} {L x : Nat} (hL : s 1 0 0 = L) (hxe : s 0 0 (L - 1) = x) (hL1 : 1 ≤ L ∧ L ≤ 6) : Met l yX4_last wsX4_last ({ frames := 0, cells := 0, slots := 0, locals := 0 }) (pC g [.ref (a 0)] (wM g a s)) (qI g (nI x) (wM g a s) A) 0 0 A := by
  refine k_start (cc := cX4_last) (maxL := 1) (ret := (some .int)) (by decide) rfl (Nat.le_of_ble_eq_true rfl) ?_
  intro pr en s0 m args below meth cd hx hb hml hr hlk hts hown hin hC hP ls hl
  have hS : va_S A s0.heap s0.heap [] := va_S.rf
  have hfx : CallFix pr m cd cX4_last 1 s0 args wsX4_last RX4 := ⟨hx, hb, hml, hown, hts⟩
  have hu4 : ∀ w ∈ wsX40, w.before args s0 = true := fun w h => hts w ((by decide +kernel : ∀ w ∈ wsX40, w ∈ wsX4_last) w h)
  have hl : lv_has ls 1 [(0, .ref (a 0))] := hl
  subst hL
  subst hxe
  refine lv_aload_n hx hb dX4_last_0 rfl (lv_at hl 0 rfl) ?_
  refine va_get (D := g.1) (C := RX4) (T := TX4) (N := 11) (ci := 4) hx hb hu4 (fun _ h => h) hown hC.1 hP _ (wM_obj) rfl 3 (by decide) (hts (.fieldLink RX4 7 "SplicedChainModel" "chain" "[I") (by decide +kernel)) (fun _ h9 => h9) rfl dX4_last_1 ?_
  refine lv_aload_n hx hb dX4_last_4 rfl (lv_at hl 0 rfl) ?_
  refine va_get (D := g.1) (C := RX4) (T := TX4) (N := 11) (ci := 4) hx hb hu4 (fun _ h => h) hown hC.1 hP _ (wM_obj) rfl 2 (by decide) (hts (.fieldLink RX4 36 "SplicedChainModel" "size" "I") (by decide +kernel)) (fun _ h9 => h9) rfl dX4_last_5 ?_
  refine k_ic (x := 1) hx hb dX4_last_8 (by decide) ?_
  refine k_isub (x := s 1 0 0) (y := 1) hx hb (by omega) dX4_last_9 ?_
  refine k_iald hx hb hC hP _ (wM_chain) (j := (s 1 0 0) - 1) (by omega) (by omega) dX4_last_10 ?_
  exact k_iret hx hb hr hlk (by rfl) hP hS dX4_last_11
set_option maxHeartbeats 4000000 in
set_option maxRecDepth 100000 in
/-- updatesTo -/
theorem c_X4_updatesTo (l : Launch) {g : GG} {a : Nat → Nat} {n : Nat} {A : Nat → Prop} (hA : Ap A a 8) {s : CS} (hm : Mh n s) {p nd U : Nat} (hnd : nd < n) (hp : p < s 1 0 0) (hpe : s 0 0 p = nd) (hu : ∀ k, k < s 1 0 0 → k ≠ p → s 0 0 k ≠ nd) (hle : 0 < p → s 4 0 nd ≤ s 4 0 (s 0 0 (p - 1))) (hU : (if 0 < p ∧ s 3 0 (s 0 0 (p - 1)) ≠ 0 then s 4 0 (s 0 0 (p - 1)) - s 4 0 nd else 0) = U) : Met l yX4_updatesTo wsX4_updatesTo ({ frames := 1, cells := 0, slots := 0, locals := 23 }) (pC g [.ref (a 0), .int (nI nd)] (wM g a s)) (qI g (nI U) (wM g a s) A) 0 0 A := by
  refine k_start (cc := cX4_updatesTo) (maxL := 3) (ret := (some .int)) (by decide) rfl (Nat.le_of_ble_eq_true rfl) ?_
  intro pr en s0 m args below meth cd hx hb hml hr hlk hts hown hin hC hP ls hl
  have hS : va_S A s0.heap s0.heap [] := va_S.rf
  have hfx : CallFix pr m cd cX4_updatesTo 3 s0 args wsX4_updatesTo RX4 := ⟨hx, hb, hml, hown, hts⟩
  have hu4 : ∀ w ∈ wsX40, w.before args s0 = true := fun w h => hts w ((by decide +kernel : ∀ w ∈ wsX40, w ∈ wsX4_updatesTo) w h)
  have hl : lv_has ls 3 [(0, .ref (a 0)), (1, .int (nI nd))] := hl
  have m0 := hm.1
  have m1 := hm.2.1
  have f1 := hm.ch (p - 1) (by omega)
  have f2 := hm.nd _ f1
  have f3 := hm.nd nd (by omega)
  refine lv_aload_n hx hb dX4_updatesTo_0 rfl (lv_at hl 0 rfl) ?_
  refine lv_iload_n hx hb dX4_updatesTo_1 rfl (lv_at hl 1 rfl) ?_
  refine kV_i (r := nI p) (w2 := wM g a s) (As := [.int (nI nd)]) (b := a 0) (rest := []) (A1 := A) hfx (c_X4_placeOf l hA (s := s) (hm) (nd := nd) (p := p) (by omega) (hp) (hpe) (hu)) (cwV 1 hts gX4_updatesTo_X4_placeOf rfl rfl rfl (by decide +kernel) ⟨by decide, by decide⟩) (va_recv hC.1 hP (ci := 4) rfl (wM_obj)) hC hP hS (fun _ h => h) rfl hl.1 rfl (Nat.le_of_ble_eq_true rfl) dX4_updatesTo_2 ⟨Nat.le_of_ble_eq_true rfl, Nat.le_of_ble_eq_true rfl⟩ (fun H locs hP hS _ _ => ?_)
  refine lv_istore_n (lv' := [(2, .int (nI p)), (0, .ref (a 0)), (1, .int (nI nd))]) hx hb dX4_updatesTo_5 rfl hl (by decide) rfl (fun ls hl => ?_)
  refine lv_iload_n hx hb dX4_updatesTo_6 rfl (lv_at hl 0 rfl) ?_
  refine k_if_le (tgt := 49) hx hb dX4_updatesTo_7 (by decide) (by omega) (fun c7 => ?_) (fun c7 => ?_)
  · skip
    refine k_ic (x := 0) hx hb dX4_updatesTo_49 (by decide) ?_
    exact k_iret hx hb hr hlk (by rw [← hU]; first | rw [if_pos ⟨by omega, by omega⟩] | rw [if_neg (by omega)]) hP hS dX4_updatesTo_50
  · skip
    have f4 := hle (by omega)
    refine lv_aload_n hx hb dX4_updatesTo_10 rfl (lv_at hl 1 rfl) ?_
    refine va_get (D := g.1) (C := RX4) (T := TX4) (N := 11) (ci := 4) hx hb hu4 (fun _ h => h) hown hC.1 hP _ (wM_obj) rfl 5 (by decide) (hts (.fieldLink RX4 17 "SplicedChainModel" "open" "[Z") (by decide +kernel)) (fun _ h9 => h9) rfl dX4_updatesTo_11 ?_
    refine lv_aload_n hx hb dX4_updatesTo_14 rfl (lv_at hl 1 rfl) ?_
    refine va_get (D := g.1) (C := RX4) (T := TX4) (N := 11) (ci := 4) hx hb hu4 (fun _ h => h) hown hC.1 hP _ (wM_obj) rfl 3 (by decide) (hts (.fieldLink RX4 7 "SplicedChainModel" "chain" "[I") (by decide +kernel)) (fun _ h9 => h9) rfl dX4_updatesTo_15 ?_
    refine lv_iload_n hx hb dX4_updatesTo_18 rfl (lv_at hl 0 rfl) ?_
    refine k_ic (x := 1) hx hb dX4_updatesTo_19 (by decide) ?_
    refine k_isub (x := p) (y := 1) hx hb (by omega) dX4_updatesTo_20 ?_
    refine k_iald hx hb hC hP _ (wM_chain) (j := p - 1) (by omega) (by omega) dX4_updatesTo_21 ?_
    refine k_zald hx hb hC hP _ (wM_open) (j := s 0 0 (p - 1)) (by omega) (by omega) dX4_updatesTo_22 ?_
    refine k_if_eq (tgt := 49) hx hb dX4_updatesTo_23 (by decide) (by omega) (fun c23 => ?_) (fun c23 => ?_)
    · skip
      refine k_ic (x := 0) hx hb dX4_updatesTo_49 (by decide) ?_
      exact k_iret hx hb hr hlk (by rw [← hU]; first | rw [if_pos ⟨by omega, by omega⟩] | rw [if_neg (by omega)]) hP hS dX4_updatesTo_50
    · skip
      refine lv_aload_n hx hb dX4_updatesTo_26 rfl (lv_at hl 1 rfl) ?_
      refine va_get (D := g.1) (C := RX4) (T := TX4) (N := 11) (ci := 4) hx hb hu4 (fun _ h => h) hown hC.1 hP _ (wM_obj) rfl 6 (by decide) (hts (.fieldLink RX4 20 "SplicedChainModel" "history" "[I") (by decide +kernel)) (fun _ h9 => h9) rfl dX4_updatesTo_27 ?_
      refine lv_aload_n hx hb dX4_updatesTo_30 rfl (lv_at hl 1 rfl) ?_
      refine va_get (D := g.1) (C := RX4) (T := TX4) (N := 11) (ci := 4) hx hb hu4 (fun _ h => h) hown hC.1 hP _ (wM_obj) rfl 3 (by decide) (hts (.fieldLink RX4 7 "SplicedChainModel" "chain" "[I") (by decide +kernel)) (fun _ h9 => h9) rfl dX4_updatesTo_31 ?_
      refine lv_iload_n hx hb dX4_updatesTo_34 rfl (lv_at hl 0 rfl) ?_
      refine k_ic (x := 1) hx hb dX4_updatesTo_35 (by decide) ?_
      refine k_isub (x := p) (y := 1) hx hb (by omega) dX4_updatesTo_36 ?_
      refine k_iald hx hb hC hP _ (wM_chain) (j := p - 1) (by omega) (by omega) dX4_updatesTo_37 ?_
      refine k_iald hx hb hC hP _ (wM_history) (j := s 0 0 (p - 1)) (by omega) (by omega) dX4_updatesTo_38 ?_
      refine lv_aload_n hx hb dX4_updatesTo_39 rfl (lv_at hl 1 rfl) ?_
      refine va_get (D := g.1) (C := RX4) (T := TX4) (N := 11) (ci := 4) hx hb hu4 (fun _ h => h) hown hC.1 hP _ (wM_obj) rfl 6 (by decide) (hts (.fieldLink RX4 20 "SplicedChainModel" "history" "[I") (by decide +kernel)) (fun _ h9 => h9) rfl dX4_updatesTo_40 ?_
      refine lv_iload_n hx hb dX4_updatesTo_43 rfl (lv_at hl 2 rfl) ?_
      refine k_iald hx hb hC hP _ (wM_history) (j := nd) (by omega) (by omega) dX4_updatesTo_44 ?_
      refine k_isub (x := s 4 0 (s 0 0 (p - 1))) (y := s 4 0 nd) hx hb (by omega) dX4_updatesTo_45 ?_
      refine lv_goto (tgt := 50) hx hb dX4_updatesTo_46 (by decide) ?_
      exact k_iret hx hb hr hlk (by rw [← hU]; first | rw [if_pos ⟨by omega, by omega⟩] | rw [if_neg (by omega)]) hP hS dX4_updatesTo_50
set_option maxHeartbeats 4000000 in
set_option maxRecDepth 100000 in
/-- updatesTo: not in the chain -/
theorem c_X4_updatesTo_no (l : Launch) {g : GG} {a : Nat → Nat} {n : Nat} {A : Nat → Prop} (hA : Ap A a 8) {s : CS} (hm : Mh n s) {nd : Nat} (hnd : nd < n) (hno : ∀ k, k < s 1 0 0 → s 0 0 k ≠ nd) : Met l yX4_updatesTo wsX4_updatesTo ({ frames := 1, cells := 0, slots := 0, locals := 23 }) (pC g [.ref (a 0), .int (nI nd)] (wM g a s)) (qI g (nI 0) (wM g a s) A) 0 0 A := by
  refine k_start (cc := cX4_updatesTo) (maxL := 3) (ret := (some .int)) (by decide) rfl (Nat.le_of_ble_eq_true rfl) ?_
  intro pr en s0 m args below meth cd hx hb hml hr hlk hts hown hin hC hP ls hl
  have hS : va_S A s0.heap s0.heap [] := va_S.rf
  have hfx : CallFix pr m cd cX4_updatesTo 3 s0 args wsX4_updatesTo RX4 := ⟨hx, hb, hml, hown, hts⟩
  have hu4 : ∀ w ∈ wsX40, w.before args s0 = true := fun w h => hts w ((by decide +kernel : ∀ w ∈ wsX40, w ∈ wsX4_updatesTo) w h)
  have hl : lv_has ls 3 [(0, .ref (a 0)), (1, .int (nI nd))] := hl
  have m0 := hm.1
  have m1 := hm.2.1
  refine lv_aload_n hx hb dX4_updatesTo_0 rfl (lv_at hl 0 rfl) ?_
  refine lv_iload_n hx hb dX4_updatesTo_1 rfl (lv_at hl 1 rfl) ?_
  refine kV_i (r := -1) (w2 := wM g a s) (As := [.int (nI nd)]) (b := a 0) (rest := []) (A1 := A) hfx (c_X4_placeOf_no l hA (s := s) (hm) (nd := nd) (by omega) (hno)) (cwV 1 hts gX4_updatesTo_X4_placeOf rfl rfl rfl (by decide +kernel) ⟨by decide, by decide⟩) (va_recv hC.1 hP (ci := 4) rfl (wM_obj)) hC hP hS (fun _ h => h) rfl hl.1 rfl (Nat.le_of_ble_eq_true rfl) dX4_updatesTo_2 ⟨Nat.le_of_ble_eq_true rfl, Nat.le_of_ble_eq_true rfl⟩ (fun H locs hP hS _ _ => ?_)
  refine lv_istore_n (lv' := [(2, .int (-1)), (0, .ref (a 0)), (1, .int (nI nd))]) hx hb dX4_updatesTo_5 rfl hl (by decide) rfl (fun ls hl => ?_)
  refine lv_iload_n hx hb dX4_updatesTo_6 rfl (lv_at hl 0 rfl) ?_
  refine lv_if_le (tgt := 49) hx hb dX4_updatesTo_7 (by decide) (fun c7 => ?_) (fun c7 => ?_)
  · skip
    refine k_ic (x := 0) hx hb dX4_updatesTo_49 (by decide) ?_
    exact k_iret hx hb hr hlk (by rfl) hP hS dX4_updatesTo_50
  · exact absurd (by decide) c7
set_option maxHeartbeats 4000000 in
set_option maxRecDepth 100000 in
/-- acksTo -/
theorem c_X4_acksTo (l : Launch) {g : GG} {a : Nat → Nat} {n : Nat} {A : Nat → Prop} (hA : Ap A a 8) {s : CS} (hm : Mh n s) {p nd V : Nat} (hnd : nd < n) (hp : p < s 1 0 0) (hpe : s 0 0 p = nd) (hu : ∀ k, k < s 1 0 0 → k ≠ p → s 0 0 k ≠ nd) (hla : p + 1 < s 1 0 0 → s 5 0 nd ≤ s 5 0 (s 0 0 (p + 1))) (hV : (if p + 1 < s 1 0 0 ∧ s 3 0 nd ≠ 0 then s 5 0 (s 0 0 (p + 1)) - s 5 0 nd else 0) = V) : Met l yX4_acksTo wsX4_acksTo ({ frames := 1, cells := 0, slots := 0, locals := 23 }) (pC g [.ref (a 0), .int (nI nd)] (wM g a s)) (qI g (nI V) (wM g a s) A) 0 0 A := by
  refine k_start (cc := cX4_acksTo) (maxL := 3) (ret := (some .int)) (by decide) rfl (Nat.le_of_ble_eq_true rfl) ?_
  intro pr en s0 m args below meth cd hx hb hml hr hlk hts hown hin hC hP ls hl
  have hS : va_S A s0.heap s0.heap [] := va_S.rf
  have hfx : CallFix pr m cd cX4_acksTo 3 s0 args wsX4_acksTo RX4 := ⟨hx, hb, hml, hown, hts⟩
  have hu4 : ∀ w ∈ wsX40, w.before args s0 = true := fun w h => hts w ((by decide +kernel : ∀ w ∈ wsX40, w ∈ wsX4_acksTo) w h)
  have hl : lv_has ls 3 [(0, .ref (a 0)), (1, .int (nI nd))] := hl
  have m0 := hm.1
  have m1 := hm.2.1
  have f3 := hm.nd nd (by omega)
  refine lv_aload_n hx hb dX4_acksTo_0 rfl (lv_at hl 0 rfl) ?_
  refine lv_iload_n hx hb dX4_acksTo_1 rfl (lv_at hl 1 rfl) ?_
  refine kV_i (r := nI p) (w2 := wM g a s) (As := [.int (nI nd)]) (b := a 0) (rest := []) (A1 := A) hfx (c_X4_placeOf l hA (s := s) (hm) (nd := nd) (p := p) (by omega) (hp) (hpe) (hu)) (cwV 1 hts gX4_acksTo_X4_placeOf rfl rfl rfl (by decide +kernel) ⟨by decide, by decide⟩) (va_recv hC.1 hP (ci := 4) rfl (wM_obj)) hC hP hS (fun _ h => h) rfl hl.1 rfl (Nat.le_of_ble_eq_true rfl) dX4_acksTo_2 ⟨Nat.le_of_ble_eq_true rfl, Nat.le_of_ble_eq_true rfl⟩ (fun H locs hP hS _ _ => ?_)
  refine lv_istore_n (lv' := [(2, .int (nI p)), (0, .ref (a 0)), (1, .int (nI nd))]) hx hb dX4_acksTo_5 rfl hl (by decide) rfl (fun ls hl => ?_)
  refine lv_iload_n hx hb dX4_acksTo_6 rfl (lv_at hl 0 rfl) ?_
  refine lv_if_lt (tgt := 52) hx hb dX4_acksTo_7 (by decide) (fun c7 => ?_) (fun c7 => ?_)
  · exact absurd c7 (nI_pos (by omega))
  · skip
    refine lv_iload_n hx hb dX4_acksTo_10 rfl (lv_at hl 0 rfl) ?_
    refine lv_aload_n hx hb dX4_acksTo_11 rfl (lv_at hl 1 rfl) ?_
    refine va_get (D := g.1) (C := RX4) (T := TX4) (N := 11) (ci := 4) hx hb hu4 (fun _ h => h) hown hC.1 hP _ (wM_obj) rfl 2 (by decide) (hts (.fieldLink RX4 36 "SplicedChainModel" "size" "I") (by decide +kernel)) (fun _ h9 => h9) rfl dX4_acksTo_12 ?_
    refine k_ic (x := 1) hx hb dX4_acksTo_15 (by decide) ?_
    refine k_isub (x := s 1 0 0) (y := 1) hx hb (by omega) dX4_acksTo_16 ?_
    refine k_icmp_ge (tgt := 52) hx hb dX4_acksTo_17 (by decide) (by omega) (by omega) (fun c17 => ?_) (fun c17 => ?_)
    · skip
      refine k_ic (x := 0) hx hb dX4_acksTo_52 (by decide) ?_
      exact k_iret hx hb hr hlk (by rw [← hV]; first | rw [if_pos ⟨by omega, by omega⟩] | rw [if_neg (by omega)]) hP hS dX4_acksTo_53
    · skip
      have f4 := hla (by omega)
      have f1 := hm.ch (p + 1) (by omega)
      have f2 := hm.nd _ f1
      refine lv_aload_n hx hb dX4_acksTo_20 rfl (lv_at hl 1 rfl) ?_
      refine va_get (D := g.1) (C := RX4) (T := TX4) (N := 11) (ci := 4) hx hb hu4 (fun _ h => h) hown hC.1 hP _ (wM_obj) rfl 5 (by decide) (hts (.fieldLink RX4 17 "SplicedChainModel" "open" "[Z") (by decide +kernel)) (fun _ h9 => h9) rfl dX4_acksTo_21 ?_
      refine lv_iload_n hx hb dX4_acksTo_24 rfl (lv_at hl 2 rfl) ?_
      refine k_zald hx hb hC hP _ (wM_open) (j := nd) (by omega) (by omega) dX4_acksTo_25 ?_
      refine k_if_eq (tgt := 52) hx hb dX4_acksTo_26 (by decide) (by omega) (fun c26 => ?_) (fun c26 => ?_)
      · skip
        refine k_ic (x := 0) hx hb dX4_acksTo_52 (by decide) ?_
        exact k_iret hx hb hr hlk (by rw [← hV]; first | rw [if_pos ⟨by omega, by omega⟩] | rw [if_neg (by omega)]) hP hS dX4_acksTo_53
      · skip
        refine lv_aload_n hx hb dX4_acksTo_29 rfl (lv_at hl 1 rfl) ?_
        refine va_get (D := g.1) (C := RX4) (T := TX4) (N := 11) (ci := 4) hx hb hu4 (fun _ h => h) hown hC.1 hP _ (wM_obj) rfl 7 (by decide) (hts (.fieldLink RX4 23 "SplicedChainModel" "acked" "[I") (by decide +kernel)) (fun _ h9 => h9) rfl dX4_acksTo_30 ?_
        refine lv_aload_n hx hb dX4_acksTo_33 rfl (lv_at hl 1 rfl) ?_
        refine va_get (D := g.1) (C := RX4) (T := TX4) (N := 11) (ci := 4) hx hb hu4 (fun _ h => h) hown hC.1 hP _ (wM_obj) rfl 3 (by decide) (hts (.fieldLink RX4 7 "SplicedChainModel" "chain" "[I") (by decide +kernel)) (fun _ h9 => h9) rfl dX4_acksTo_34 ?_
        refine lv_iload_n hx hb dX4_acksTo_37 rfl (lv_at hl 0 rfl) ?_
        refine k_ic (x := 1) hx hb dX4_acksTo_38 (by decide) ?_
        refine k_iadd (x := p) (y := 1) hx hb dX4_acksTo_39 ?_
        refine k_iald hx hb hC hP _ (wM_chain) (j := p + 1) (by omega) (by omega) dX4_acksTo_40 ?_
        refine k_iald hx hb hC hP _ (wM_acked) (j := s 0 0 (p + 1)) (by omega) (by omega) dX4_acksTo_41 ?_
        refine lv_aload_n hx hb dX4_acksTo_42 rfl (lv_at hl 1 rfl) ?_
        refine va_get (D := g.1) (C := RX4) (T := TX4) (N := 11) (ci := 4) hx hb hu4 (fun _ h => h) hown hC.1 hP _ (wM_obj) rfl 7 (by decide) (hts (.fieldLink RX4 23 "SplicedChainModel" "acked" "[I") (by decide +kernel)) (fun _ h9 => h9) rfl dX4_acksTo_43 ?_
        refine lv_iload_n hx hb dX4_acksTo_46 rfl (lv_at hl 2 rfl) ?_
        refine k_iald hx hb hC hP _ (wM_acked) (j := nd) (by omega) (by omega) dX4_acksTo_47 ?_
        refine k_isub (x := s 5 0 (s 0 0 (p + 1))) (y := s 5 0 nd) hx hb (by omega) dX4_acksTo_48 ?_
        refine lv_goto (tgt := 53) hx hb dX4_acksTo_49 (by decide) ?_
        exact k_iret hx hb hr hlk (by rw [← hV]; first | rw [if_pos ⟨by omega, by omega⟩] | rw [if_neg (by omega)]) hP hS dX4_acksTo_53
set_option maxHeartbeats 4000000 in
set_option maxRecDepth 100000 in
/-- acksTo: not in the chain -/
theorem c_X4_acksTo_no (l : Launch) {g : GG} {a : Nat → Nat} {n : Nat} {A : Nat → Prop} (hA : Ap A a 8) {s : CS} (hm : Mh n s) {nd : Nat} (hnd : nd < n) (hno : ∀ k, k < s 1 0 0 → s 0 0 k ≠ nd) : Met l yX4_acksTo wsX4_acksTo ({ frames := 1, cells := 0, slots := 0, locals := 23 }) (pC g [.ref (a 0), .int (nI nd)] (wM g a s)) (qI g (nI 0) (wM g a s) A) 0 0 A := by
  refine k_start (cc := cX4_acksTo) (maxL := 3) (ret := (some .int)) (by decide) rfl (Nat.le_of_ble_eq_true rfl) ?_
  intro pr en s0 m args below meth cd hx hb hml hr hlk hts hown hin hC hP ls hl
  have hS : va_S A s0.heap s0.heap [] := va_S.rf
  have hfx : CallFix pr m cd cX4_acksTo 3 s0 args wsX4_acksTo RX4 := ⟨hx, hb, hml, hown, hts⟩
  have hu4 : ∀ w ∈ wsX40, w.before args s0 = true := fun w h => hts w ((by decide +kernel : ∀ w ∈ wsX40, w ∈ wsX4_acksTo) w h)
  have hl : lv_has ls 3 [(0, .ref (a 0)), (1, .int (nI nd))] := hl
  have m0 := hm.1
  have m1 := hm.2.1
  refine lv_aload_n hx hb dX4_acksTo_0 rfl (lv_at hl 0 rfl) ?_
  refine lv_iload_n hx hb dX4_acksTo_1 rfl (lv_at hl 1 rfl) ?_
  refine kV_i (r := -1) (w2 := wM g a s) (As := [.int (nI nd)]) (b := a 0) (rest := []) (A1 := A) hfx (c_X4_placeOf_no l hA (s := s) (hm) (nd := nd) (by omega) (hno)) (cwV 1 hts gX4_acksTo_X4_placeOf rfl rfl rfl (by decide +kernel) ⟨by decide, by decide⟩) (va_recv hC.1 hP (ci := 4) rfl (wM_obj)) hC hP hS (fun _ h => h) rfl hl.1 rfl (Nat.le_of_ble_eq_true rfl) dX4_acksTo_2 ⟨Nat.le_of_ble_eq_true rfl, Nat.le_of_ble_eq_true rfl⟩ (fun H locs hP hS _ _ => ?_)
  refine lv_istore_n (lv' := [(2, .int (-1)), (0, .ref (a 0)), (1, .int (nI nd))]) hx hb dX4_acksTo_5 rfl hl (by decide) rfl (fun ls hl => ?_)
  refine lv_iload_n hx hb dX4_acksTo_6 rfl (lv_at hl 0 rfl) ?_
  refine lv_if_lt (tgt := 52) hx hb dX4_acksTo_7 (by decide) (fun c7 => ?_) (fun c7 => ?_)
  · skip
    refine k_ic (x := 0) hx hb dX4_acksTo_52 (by decide) ?_
    exact k_iret hx hb hr hlk (by rfl) hP hS dX4_acksTo_53
  · exact absurd (by decide) c7
set_option maxHeartbeats 4000000 in
set_option maxRecDepth 100000 in
/-- apply -/
theorem c_X4_apply (l : Launch) {g : GG} {a : Nat → Nat} {n : Nat} {A : Nat → Prop} (hA : Ap A a 8) {s : CS} (hm : Mh n s) {nd k v : Nat} (hnd : nd < 6) (hh : s 4 0 nd < 40) : Met l yX4_apply wsX4_apply ({ frames := 1, cells := 0, slots := 0, locals := 20 }) (pC g [.ref (a 0), .int (nI nd), .int (nI k), .int (nI v)] (wM g a s)) (qV g (wM g a (apM s nd k v)) A) 0 0 A := by
  refine k_start (cc := cX4_apply) (maxL := 4) (ret := none) (by decide) rfl (Nat.le_of_ble_eq_true rfl) ?_
  intro pr en s0 m args below meth cd hx hb hml hr hlk hts hown hin hC hP ls hl
  have hS : va_S A s0.heap s0.heap [] := va_S.rf
  have hfx : CallFix pr m cd cX4_apply 4 s0 args wsX4_apply RX4 := ⟨hx, hb, hml, hown, hts⟩
  have hu4 : ∀ w ∈ wsX40, w.before args s0 = true := fun w h => hts w ((by decide +kernel : ∀ w ∈ wsX40, w ∈ wsX4_apply) w h)
  have hl : lv_has ls 4 [(0, .ref (a 0)), (1, .int (nI nd)), (2, .int (nI k)), (3, .int (nI v))] := hl
  have m0 := hm.1
  have m1 := hm.2.1
  have f1 := hm.ch (s 1 0 0 - 1) (by omega)
  refine lv_aload_n hx hb dX4_apply_0 rfl (lv_at hl 0 rfl) ?_
  refine va_get (D := g.1) (C := RX4) (T := TX4) (N := 11) (ci := 4) hx hb hu4 (fun _ h => h) hown hC.1 hP _ (wM_obj) rfl 6 (by decide) (hts (.fieldLink RX4 20 "SplicedChainModel" "history" "[I") (by decide +kernel)) (fun _ h9 => h9) rfl dX4_apply_1 ?_
  refine lv_iload_n hx hb dX4_apply_4 rfl (lv_at hl 1 rfl) ?_
  refine lv_dup2_11 hx hb dX4_apply_5 rfl rfl ?_
  refine k_iald hx hb hC hP _ (wM_history) (j := nd) (by omega) (by omega) dX4_apply_6 ?_
  refine k_ic (x := 1) hx hb dX4_apply_7 (by decide) ?_
  refine k_iadd (x := s 4 0 nd) (y := 1) hx hb dX4_apply_8 ?_
  refine k_iast hx hb hC hP hA.M hS _ (wM_history) (j := nd) (by omega) (by omega) dX4_apply_9 wpM_history (fun H locs hP hS => ?_)
  refine lv_aload_n hx hb dX4_apply_10 rfl (lv_at hl 0 rfl) ?_
  refine va_get (D := g.1) (C := RX4) (T := TX4) (N := 11) (ci := 4) hx hb hu4 (fun _ h => h) hown hC.1 hP _ (wM_obj) rfl 8 (by decide) (hts (.fieldLink RX4 26 "SplicedChainModel" "keys" "[I") (by decide +kernel)) (fun _ h9 => h9) rfl dX4_apply_11 ?_
  refine k_bi (x := 41) hx hb dX4_apply_14 (by decide) ?_
  refine lv_iload_n hx hb dX4_apply_16 rfl (lv_at hl 1 rfl) ?_
  refine k_imul (x := 41) (y := nd) hx hb dX4_apply_17 ?_
  refine lv_aload_n hx hb dX4_apply_18 rfl (lv_at hl 0 rfl) ?_
  refine va_get (D := g.1) (C := RX4) (T := TX4) (N := 11) (ci := 4) hx hb hu4 (fun _ h => h) hown hC.1 hP _ (wM_obj) rfl 6 (by decide) (hts (.fieldLink RX4 20 "SplicedChainModel" "history" "[I") (by decide +kernel)) (fun _ h9 => h9) rfl dX4_apply_19 ?_
  refine lv_iload_n hx hb dX4_apply_22 rfl (lv_at hl 1 rfl) ?_
  refine k_iald hx hb hC hP _ (wM_history) (j := nd) (by omega) (by omega) dX4_apply_23 ?_
  refine k_as (x := (s 4 0 nd) + 1) (by simp [w3]) ?_
  refine k_iadd (x := 41 * nd) (y := (s 4 0 nd) + 1) hx hb dX4_apply_24 ?_
  refine lv_iload_n hx hb dX4_apply_25 rfl (lv_at hl 2 rfl) ?_
  refine k_iast hx hb hC hP hA.M hS _ (wM_keys) (j := (41 * nd) + ((s 4 0 nd) + 1)) (by omega) (by omega) dX4_apply_26 wpM_keys (fun H locs hP hS => ?_)
  refine lv_aload_n hx hb dX4_apply_27 rfl (lv_at hl 0 rfl) ?_
  refine va_get (D := g.1) (C := RX4) (T := TX4) (N := 11) (ci := 4) hx hb hu4 (fun _ h => h) hown hC.1 hP _ (wM_obj) rfl 9 (by decide) (hts (.fieldLink RX4 29 "SplicedChainModel" "values" "[I") (by decide +kernel)) (fun _ h9 => h9) rfl dX4_apply_28 ?_
  refine k_bi (x := 41) hx hb dX4_apply_31 (by decide) ?_
  refine lv_iload_n hx hb dX4_apply_33 rfl (lv_at hl 1 rfl) ?_
  refine k_imul (x := 41) (y := nd) hx hb dX4_apply_34 ?_
  refine lv_aload_n hx hb dX4_apply_35 rfl (lv_at hl 0 rfl) ?_
  refine va_get (D := g.1) (C := RX4) (T := TX4) (N := 11) (ci := 4) hx hb hu4 (fun _ h => h) hown hC.1 hP _ (wM_obj) rfl 6 (by decide) (hts (.fieldLink RX4 20 "SplicedChainModel" "history" "[I") (by decide +kernel)) (fun _ h9 => h9) rfl dX4_apply_36 ?_
  refine lv_iload_n hx hb dX4_apply_39 rfl (lv_at hl 1 rfl) ?_
  refine k_iald hx hb hC hP _ (wM_history) (j := nd) (by omega) (by omega) dX4_apply_40 ?_
  refine k_as (x := (s 4 0 nd) + 1) (by simp [w3]) ?_
  refine k_iadd (x := 41 * nd) (y := (s 4 0 nd) + 1) hx hb dX4_apply_41 ?_
  refine lv_iload_n hx hb dX4_apply_42 rfl (lv_at hl 3 rfl) ?_
  refine k_iast hx hb hC hP hA.M hS _ (wM_values) (j := (41 * nd) + ((s 4 0 nd) + 1)) (by omega) (by omega) dX4_apply_43 wpM_values (fun H locs hP hS => ?_)
  refine lv_iload_n hx hb dX4_apply_44 rfl (lv_at hl 1 rfl) ?_
  refine lv_aload_n hx hb dX4_apply_45 rfl (lv_at hl 0 rfl) ?_
  refine kV_i (r := nI (s 0 0 (s 1 0 0 - 1))) (w2 := wM g a (w3 (w3 (w3 s 4 0 nd ((s 4 0 nd) + 1)) 6 0 ((41 * nd) + ((s 4 0 nd) + 1)) k) 7 0 ((41 * nd) + ((s 4 0 nd) + 1)) v)) (As := []) (b := a 0) (rest := [.int (nI nd)]) (A1 := A) hfx (c_X4_last l (n := n) hA (s := (w3 (w3 (w3 s 4 0 nd ((s 4 0 nd) + 1)) 6 0 ((41 * nd) + ((s 4 0 nd) + 1)) k) 7 0 ((41 * nd) + ((s 4 0 nd) + 1)) v)) (L := s 1 0 0) (x := s 0 0 (s 1 0 0 - 1)) (by simp [w3]) (by simp [w3]) (by omega)) (cwV 0 hts gX4_apply_X4_last rfl rfl rfl (by decide +kernel) ⟨by decide, by decide⟩) (va_recv hC.1 hP (ci := 4) rfl (wM_obj)) hC hP hS (fun _ h => h) rfl hl.1 rfl (Nat.le_of_ble_eq_true rfl) dX4_apply_46 ⟨Nat.le_of_ble_eq_true rfl, Nat.le_of_ble_eq_true rfl⟩ (fun H locs hP hS _ _ => ?_)
  refine k_icmp_ne (tgt := 74) hx hb dX4_apply_49 (by decide) (by omega) (by omega) (fun c49 => ?_) (fun c49 => ?_)
  · skip
    exact k_vret hx hb hr hlk (P_eq (congrArg (wM g a) (by unfold apM; first | rw [if_pos c49]; rfl | rw [if_neg c49]; rfl)) hP) hS dX4_apply_74
  · skip
    refine lv_aload_n hx hb dX4_apply_52 rfl (lv_at hl 0 rfl) ?_
    refine va_get (D := g.1) (C := RX4) (T := TX4) (N := 11) (ci := 4) hx hb hu4 (fun _ h => h) hown hC.1 hP _ (wM_obj) rfl 7 (by decide) (hts (.fieldLink RX4 23 "SplicedChainModel" "acked" "[I") (by decide +kernel)) (fun _ h9 => h9) rfl dX4_apply_53 ?_
    refine lv_iload_n hx hb dX4_apply_56 rfl (lv_at hl 1 rfl) ?_
    refine lv_aload_n hx hb dX4_apply_57 rfl (lv_at hl 0 rfl) ?_
    refine va_get (D := g.1) (C := RX4) (T := TX4) (N := 11) (ci := 4) hx hb hu4 (fun _ h => h) hown hC.1 hP _ (wM_obj) rfl 6 (by decide) (hts (.fieldLink RX4 20 "SplicedChainModel" "history" "[I") (by decide +kernel)) (fun _ h9 => h9) rfl dX4_apply_58 ?_
    refine lv_iload_n hx hb dX4_apply_61 rfl (lv_at hl 1 rfl) ?_
    refine k_iald hx hb hC hP _ (wM_history) (j := nd) (by omega) (by omega) dX4_apply_62 ?_
    refine k_as (x := (s 4 0 nd) + 1) (by simp [w3]) ?_
    refine k_iast hx hb hC hP hA.M hS _ (wM_acked) (j := nd) (by omega) (by omega) dX4_apply_63 wpM_acked (fun H locs hP hS => ?_)
    refine lv_aload_n hx hb dX4_apply_64 rfl (lv_at hl 0 rfl) ?_
    refine lv_aload_n hx hb dX4_apply_65 rfl (lv_at hl 0 rfl) ?_
    refine va_get (D := g.1) (C := RX4) (T := TX4) (N := 11) (ci := 4) hx hb hu4 (fun _ h => h) hown hC.1 hP _ (wM_obj) rfl 6 (by decide) (hts (.fieldLink RX4 20 "SplicedChainModel" "history" "[I") (by decide +kernel)) (fun _ h9 => h9) rfl dX4_apply_66 ?_
    refine lv_iload_n hx hb dX4_apply_69 rfl (lv_at hl 1 rfl) ?_
    refine k_iald hx hb hC hP _ (wM_history) (j := nd) (by omega) (by omega) dX4_apply_70 ?_
    refine k_as (x := (s 4 0 nd) + 1) (by simp [w3]) ?_
    refine va_put (D := g.1) (v := .int (nI ((s 4 0 nd) + 1))) (ty := .int) (C := RX4) (T := TX4) (N := 11) (ci := 4) hx hb hu4 (fun _ h => h) tyX4 tyX4_ok nmX4 hown hC.1 hP hA.M hS _ (wM_obj) rfl 10 (by decide) (hts (.fieldLink RX4 50 "SplicedChainModel" "replies" "I") (by decide +kernel)) (fun _ h9 => h9) rfl (by decide +kernel) rfl rfl (Nat.le_of_ble_eq_true rfl) dX4_apply_71 (fun H locs hP _ hS => ?_)
    have hP : va_P g.1 vwCl (wM g a (w3 (w3 (w3 (w3 (w3 s 4 0 nd ((s 4 0 nd) + 1)) 6 0 ((41 * nd) + ((s 4 0 nd) + 1)) k) 7 0 ((41 * nd) + ((s 4 0 nd) + 1)) v) 5 0 nd ((s 4 0 nd) + 1)) 8 0 0 ((s 4 0 nd) + 1))) H := P_eq wpM_replies hP
    exact k_vret hx hb hr hlk (P_eq (congrArg (wM g a) (by unfold apM; first | rw [if_pos c49]; rfl | rw [if_neg c49]; rfl)) hP) hS dX4_apply_74
set_option maxHeartbeats 4000000 in
set_option maxRecDepth 100000 in
/-- valueOf -/
theorem c_X4_valueOf (l : Launch) {g : GG} {a : Nat → Nat} {n : Nat} {A : Nat → Prop} (hA : Ap A a 8) {s : CS} (hm : Mh n s) {nd k : Nat} (hnd : nd < 6) (hk : k < 8) : Met l yX4_valueOf wsX4_valueOf ({ frames := 0, cells := 0, slots := 0, locals := 0 }) (pC g [.ref (a 0), .int (nI nd), .int (nI k)] (wM g a s)) (qI g (nI (valF s nd k (s 4 0 nd))) (wM g a s) A) 0 0 A := by
  refine k_start (cc := cX4_valueOf) (maxL := 5) (ret := (some .int)) (by decide) rfl (Nat.le_of_ble_eq_true rfl) ?_
  intro pr en s0 m args below meth cd hx hb hml hr hlk hts hown hin hC hP ls hl
  have hS : va_S A s0.heap s0.heap [] := va_S.rf
  have hfx : CallFix pr m cd cX4_valueOf 5 s0 args wsX4_valueOf RX4 := ⟨hx, hb, hml, hown, hts⟩
  have hu4 : ∀ w ∈ wsX40, w.before args s0 = true := fun w h => hts w ((by decide +kernel : ∀ w ∈ wsX40, w ∈ wsX4_valueOf) w h)
  have hl : lv_has ls 5 [(0, .ref (a 0)), (1, .int (nI nd)), (2, .int (nI k))] := hl
  have m0 := hm.1
  have m1 := hm.2.1
  have f1 := hm.nd nd (by omega)
  have loop : ∀ (d u : Nat), s 4 0 nd + 1 ≤ u + d → u ≤ s 4 0 nd → ∀ ls : Array Slot, lv_has ls 5 [(4, .int (nI (u + 1))), (3, .int (nI (valF s nd k u))), (0, .ref (a 0)), (1, .int (nI nd)), (2, .int (nI k))] → W pr l en ({ frames := 0, cells := 0, slots := 0, locals := 0 }) s0 m args below meth cd s0.heap [] 0 0 (MQ below (qI g (nI (valF s nd k (s 4 0 nd))) (wM g a s) A) args s0 0 0 A) (F0 m 5 ls []) := by
    intro d
    induction d with
    | zero => intro u h1 h2; exact absurd h1 (by omega)
    | succ d ih =>
      intro u h1 h2 ls hl
      refine lv_iload hx hb dX4_valueOf_5 (lv_at hl 0 rfl) ?_
      refine lv_aload_n hx hb dX4_valueOf_7 rfl (lv_at hl 2 rfl) ?_
      refine va_get (D := g.1) (C := RX4) (T := TX4) (N := 11) (ci := 4) hx hb hu4 (fun _ h => h) hown hC.1 hP _ (wM_obj) rfl 6 (by decide) (hts (.fieldLink RX4 20 "SplicedChainModel" "history" "[I") (by decide +kernel)) (fun _ h9 => h9) rfl dX4_valueOf_8 ?_
      refine lv_iload_n hx hb dX4_valueOf_11 rfl (lv_at hl 3 rfl) ?_
      refine k_iald hx hb hC hP _ (wM_history) (j := nd) (by omega) (by omega) dX4_valueOf_12 ?_
      refine k_icmp_gt (tgt := 55) hx hb dX4_valueOf_13 (by decide) (by omega) (by omega) (fun c13 => ?_) (fun c13 => ?_)
      · skip
        refine lv_iload_n hx hb dX4_valueOf_55 rfl (lv_at hl 1 rfl) ?_
        exact k_iret hx hb hr hlk (by rw [show u = s 4 0 nd by omega]) hP hS dX4_valueOf_56
      · skip
        have f2 := hm.key (41 * nd + (u + 1))
        refine lv_aload_n hx hb dX4_valueOf_16 rfl (lv_at hl 2 rfl) ?_
        refine va_get (D := g.1) (C := RX4) (T := TX4) (N := 11) (ci := 4) hx hb hu4 (fun _ h => h) hown hC.1 hP _ (wM_obj) rfl 8 (by decide) (hts (.fieldLink RX4 26 "SplicedChainModel" "keys" "[I") (by decide +kernel)) (fun _ h9 => h9) rfl dX4_valueOf_17 ?_
        refine k_bi (x := 41) hx hb dX4_valueOf_20 (by decide) ?_
        refine lv_iload_n hx hb dX4_valueOf_22 rfl (lv_at hl 3 rfl) ?_
        refine k_imul (x := 41) (y := nd) hx hb dX4_valueOf_23 ?_
        refine lv_iload hx hb dX4_valueOf_24 (lv_at hl 0 rfl) ?_
        refine k_iadd (x := 41 * nd) (y := u + 1) hx hb dX4_valueOf_26 ?_
        refine k_iald hx hb hC hP _ (wM_keys) (j := (41 * nd) + (u + 1)) (by omega) (by omega) dX4_valueOf_27 ?_
        refine lv_iload_n hx hb dX4_valueOf_28 rfl (lv_at hl 4 rfl) ?_
        refine k_icmp_ne (tgt := 47) hx hb dX4_valueOf_29 (by decide) (by omega) (by omega) (fun c29 => ?_) (fun c29 => ?_)
        · skip
          refine lv_iload_n hx hb dX4_valueOf_47 rfl (lv_at hl 1 rfl) ?_
          refine lv_istore_n (lv' := [(3, .int (nI (valF s nd k u))), (4, .int (nI (u + 1))), (0, .ref (a 0)), (1, .int (nI nd)), (2, .int (nI k))]) hx hb dX4_valueOf_48 rfl hl (by decide) rfl (fun ls hl => ?_)
          refine lv_iinc (v := nI (u + 1 + 1)) (lv' := [(4, .int (nI (u + 1 + 1))), (3, .int (nI (valF s nd k u))), (0, .ref (a 0)), (1, .int (nI nd)), (2, .int (nI k))]) hx hb dX4_valueOf_49 hl (k := 1) rfl (nI_add _ _) (by decide) rfl (fun ls hl => ?_)
          refine lv_goto (tgt := 5) hx hb dX4_valueOf_52 (by decide) ?_
          exact ih (u + 1) (by omega) (by omega) ls (by rw [show valF s nd k (u + 1) = valF s nd k u by simp [valF, c29]]; exact lv_sub hl [0, 1, 2, 3, 4] rfl)
        · skip
          refine lv_aload_n hx hb dX4_valueOf_32 rfl (lv_at hl 2 rfl) ?_
          refine va_get (D := g.1) (C := RX4) (T := TX4) (N := 11) (ci := 4) hx hb hu4 (fun _ h => h) hown hC.1 hP _ (wM_obj) rfl 9 (by decide) (hts (.fieldLink RX4 29 "SplicedChainModel" "values" "[I") (by decide +kernel)) (fun _ h9 => h9) rfl dX4_valueOf_33 ?_
          refine k_bi (x := 41) hx hb dX4_valueOf_36 (by decide) ?_
          refine lv_iload_n hx hb dX4_valueOf_38 rfl (lv_at hl 3 rfl) ?_
          refine k_imul (x := 41) (y := nd) hx hb dX4_valueOf_39 ?_
          refine lv_iload hx hb dX4_valueOf_40 (lv_at hl 0 rfl) ?_
          refine k_iadd (x := 41 * nd) (y := u + 1) hx hb dX4_valueOf_42 ?_
          refine k_iald hx hb hC hP _ (wM_values) (j := (41 * nd) + (u + 1)) (by omega) (by omega) dX4_valueOf_43 ?_
          refine lv_goto (tgt := 48) hx hb dX4_valueOf_44 (by decide) ?_
          refine lv_istore_n (lv' := [(3, .int (nI (s 7 0 ((41 * nd) + (u + 1))))), (4, .int (nI (u + 1))), (0, .ref (a 0)), (1, .int (nI nd)), (2, .int (nI k))]) hx hb dX4_valueOf_48 rfl hl (by decide) rfl (fun ls hl => ?_)
          refine lv_iinc (v := nI (u + 1 + 1)) (lv' := [(4, .int (nI (u + 1 + 1))), (3, .int (nI (s 7 0 ((41 * nd) + (u + 1))))), (0, .ref (a 0)), (1, .int (nI nd)), (2, .int (nI k))]) hx hb dX4_valueOf_49 hl (k := 1) rfl (nI_add _ _) (by decide) rfl (fun ls hl => ?_)
          refine lv_goto (tgt := 5) hx hb dX4_valueOf_52 (by decide) ?_
          exact ih (u + 1) (by omega) (by omega) ls (by rw [show valF s nd k (u + 1) = s 7 0 ((41 * nd) + (u + 1)) by simp [valF, c29]]; exact lv_sub hl [0, 1, 2, 3, 4] rfl)
  refine k_ic (x := 0) hx hb dX4_valueOf_0 (by decide) ?_
  refine lv_istore_n (lv' := [(3, .int (nI 0)), (0, .ref (a 0)), (1, .int (nI nd)), (2, .int (nI k))]) hx hb dX4_valueOf_1 rfl hl (by decide) rfl (fun ls hl => ?_)
  refine k_ic (x := 1) hx hb dX4_valueOf_2 (by decide) ?_
  refine lv_istore (lv' := [(4, .int (nI 1)), (3, .int (nI 0)), (0, .ref (a 0)), (1, .int (nI nd)), (2, .int (nI k))]) hx hb dX4_valueOf_3 hl (by decide) rfl (fun ls hl => ?_)
  exact loop (s 4 0 nd + 1) 0 (by omega) (by omega) ls (lv_sub hl [0, 1, 2, 3, 4] rfl)
end
section
set_option maxHeartbeats 4000000 in
set_option maxRecDepth 100000 in
/-- write -/
theorem c_X4_write (l : Launch) {g : GG} {a : Nat → Nat} {n : Nat} {A : Nat → Prop} (hA : Ap A a 8) {s : CS} (hm : Mh n s) {j v : Nat} (hj : j < 8) (hfl : s 2 0 (s 0 0 0) = 0) (hh : s 4 0 (s 0 0 0) < 40) : Met l yX4_write wsX4_write ({ frames := 2, cells := 0, slots := 0, locals := 43 }) (pC g [.ref (a 0), .int (nI j), .int (nI v)] (wM g a s)) (qI g (nI (s 4 0 (s 0 0 0) + 1)) (wM g a (apM (w3 s 9 0 0 0) (s 0 0 0) j v)) A) 0 0 A := by
  refine k_start (cc := cX4_write) (maxL := 4) (ret := (some .int)) (by decide) rfl (Nat.le_of_ble_eq_true rfl) ?_
  intro pr en s0 m args below meth cd hx hb hml hr hlk hts hown hin hC hP ls hl
  have hS : va_S A s0.heap s0.heap [] := va_S.rf
  have hfx : CallFix pr m cd cX4_write 4 s0 args wsX4_write RX4 := ⟨hx, hb, hml, hown, hts⟩
  have hu4 : ∀ w ∈ wsX40, w.before args s0 = true := fun w h => hts w ((by decide +kernel : ∀ w ∈ wsX40, w ∈ wsX4_write) w h)
  have hl : lv_has ls 4 [(0, .ref (a 0)), (1, .int (nI j)), (2, .int (nI v))] := hl
  have m0 := hm.1
  have m1 := hm.2.1
  have f1 := hm.ch 0 (by omega)
  refine lv_aload_n hx hb dX4_write_0 rfl (lv_at hl 0 rfl) ?_
  refine kV_i (r := nI (s 0 0 0)) (w2 := wM g a s) (As := []) (b := a 0) (rest := []) (A1 := A) hfx (c_X4_first l (n := n) hA (s := s) (x := s 0 0 0) (rfl)) (cwV 0 hts gX4_write_X4_first rfl rfl rfl (by decide +kernel) ⟨by decide, by decide⟩) (va_recv hC.1 hP (ci := 4) rfl (wM_obj)) hC hP hS (fun _ h => h) rfl hl.1 rfl (Nat.le_of_ble_eq_true rfl) dX4_write_1 ⟨Nat.le_of_ble_eq_true rfl, Nat.le_of_ble_eq_true rfl⟩ (fun H locs hP hS _ _ => ?_)
  refine lv_istore_n (lv' := [(3, .int (nI (s 0 0 0))), (0, .ref (a 0)), (1, .int (nI j)), (2, .int (nI v))]) hx hb dX4_write_4 rfl hl (by decide) rfl (fun ls hl => ?_)
  refine lv_aload_n hx hb dX4_write_5 rfl (lv_at hl 1 rfl) ?_
  refine lv_iload_n hx hb dX4_write_6 rfl (lv_at hl 2 rfl) ?_
  refine lv_if_lt (tgt := 16) hx hb dX4_write_7 (by decide) (fun c7 => ?_) (fun c7 => ?_)
  · exact absurd c7 (nI_pos (by omega))
  · skip
    refine lv_iload_n hx hb dX4_write_10 rfl (lv_at hl 2 rfl) ?_
    refine k_bi (x := 7) hx hb dX4_write_11 (by decide) ?_
    refine k_icmp_le (tgt := 20) hx hb dX4_write_13 (by decide) (by omega) (by omega) (fun c13 => ?_) (fun c13 => ?_)
    · skip
      refine lv_aload_n hx hb dX4_write_20 rfl (lv_at hl 1 rfl) ?_
      refine va_get (D := g.1) (C := RX4) (T := TX4) (N := 11) (ci := 4) hx hb hu4 (fun _ h => h) hown hC.1 hP _ (wM_obj) rfl 4 (by decide) (hts (.fieldLink RX4 13 "SplicedChainModel" "failed" "[Z") (by decide +kernel)) (fun _ h9 => h9) rfl dX4_write_21 ?_
      refine lv_iload_n hx hb dX4_write_24 rfl (lv_at hl 0 rfl) ?_
      refine k_zald hx hb hC hP _ (wM_failed) (j := s 0 0 0) (by omega) (by omega) dX4_write_25 ?_
      refine k_if_ne (tgt := 40) hx hb dX4_write_26 (by decide) (by omega) (fun c26 => ?_) (fun c26 => ?_)
      · exfalso; omega
      · skip
        refine lv_aload_n hx hb dX4_write_29 rfl (lv_at hl 1 rfl) ?_
        refine va_get (D := g.1) (C := RX4) (T := TX4) (N := 11) (ci := 4) hx hb hu4 (fun _ h => h) hown hC.1 hP _ (wM_obj) rfl 6 (by decide) (hts (.fieldLink RX4 20 "SplicedChainModel" "history" "[I") (by decide +kernel)) (fun _ h9 => h9) rfl dX4_write_30 ?_
        refine lv_iload_n hx hb dX4_write_33 rfl (lv_at hl 0 rfl) ?_
        refine k_iald hx hb hC hP _ (wM_history) (j := s 0 0 0) (by omega) (by omega) dX4_write_34 ?_
        refine k_bi (x := 40) hx hb dX4_write_35 (by decide) ?_
        refine k_icmp_ne (tgt := 44) hx hb dX4_write_37 (by decide) (by omega) (by omega) (fun c37 => ?_) (fun c37 => ?_)
        · skip
          refine k_ic (x := 0) hx hb dX4_write_44 (by decide) ?_
          refine kV_i (r := nI 0) (w2 := wM g a (w3 s 9 0 0 0)) (As := [.int (nI 0)]) (b := a 0) (rest := []) (A1 := A) hfx (c_X4_throwsIt_0 l (n := n) hA (s := s)) (cwV 1 hts gX4_write_X4_throwsIt rfl rfl rfl (by decide +kernel) ⟨by decide, by decide⟩) (va_recv hC.1 hP (ci := 4) rfl (wM_obj)) hC hP hS (fun _ h => h) rfl hl.1 rfl (Nat.le_of_ble_eq_true rfl) dX4_write_45 ⟨Nat.le_of_ble_eq_true rfl, Nat.le_of_ble_eq_true rfl⟩ (fun H locs hP hS _ _ => ?_)
          refine k_if_eq (tgt := 53) hx hb dX4_write_48 (by decide) (by omega) (fun c48 => ?_) (fun c48 => ?_)
          · skip
            refine lv_aload_n hx hb dX4_write_53 rfl (lv_at hl 1 rfl) ?_
            refine lv_iload_n hx hb dX4_write_54 rfl (lv_at hl 0 rfl) ?_
            refine lv_iload_n hx hb dX4_write_55 rfl (lv_at hl 2 rfl) ?_
            refine lv_iload_n hx hb dX4_write_56 rfl (lv_at hl 3 rfl) ?_
            refine kV_v (w2 := wM g a (apM (w3 s 9 0 0 0) (s 0 0 0) j v)) (As := [.int (nI (s 0 0 0)), .int (nI j), .int (nI v)]) (b := a 0) (rest := []) (A1 := A) hfx (c_X4_apply l hA (s := (w3 s 9 0 0 0)) (hm.m9) (nd := s 0 0 0) (k := j) (v := v) (by omega) (by simp [w3]; omega)) (cwV 3 hts gX4_write_X4_apply rfl rfl rfl (by decide +kernel) ⟨by decide, by decide⟩) (va_recv hC.1 hP (ci := 4) rfl (wM_obj)) hC hP hS (fun _ h => h) rfl hl.1 rfl (Nat.le_of_ble_eq_true rfl) dX4_write_57 ⟨Nat.le_of_ble_eq_true rfl, Nat.le_of_ble_eq_true rfl⟩ (fun H locs hP hS _ _ => ?_)
            refine lv_aload_n hx hb dX4_write_60 rfl (lv_at hl 1 rfl) ?_
            refine va_get (D := g.1) (C := RX4) (T := TX4) (N := 11) (ci := 4) hx hb hu4 (fun _ h => h) hown hC.1 hP _ (wM_obj) rfl 6 (by decide) (hts (.fieldLink RX4 20 "SplicedChainModel" "history" "[I") (by decide +kernel)) (fun _ h9 => h9) rfl dX4_write_61 ?_
            refine lv_iload_n hx hb dX4_write_64 rfl (lv_at hl 0 rfl) ?_
            refine k_iald hx hb hC hP _ (wM_history) (j := s 0 0 0) (by omega) (by omega) dX4_write_65 ?_
            refine k_as (x := s 4 0 (s 0 0 0) + 1) (by rw [apM_h]; simp [w3]) ?_
            exact k_iret hx hb hr hlk (by rfl) hP hS dX4_write_66
          · exfalso; omega
        · exfalso; omega
    · exfalso; omega
set_option maxHeartbeats 4000000 in
set_option maxRecDepth 100000 in
/-- write: no key -/
theorem c_X4_write_1 (l : Launch) {g : GG} {a : Nat → Nat} {n : Nat} {A : Nat → Prop} (hA : Ap A a 8) {s : CS} (hm : Mh n s) {x : Int32} {v : Nat} (hbadk : x < 0 ∨ nI 8 ≤ x) : Met l yX4_write wsX4_write ({ frames := 2, cells := 0, slots := 0, locals := 43 }) (pC g [.ref (a 0), .int (x), .int (nI v)] (wM g a s)) (qI g (nI 0) (wM g a (w3 s 9 0 0 1)) A) 0 0 A := by
  refine k_start (cc := cX4_write) (maxL := 4) (ret := (some .int)) (by decide) rfl (Nat.le_of_ble_eq_true rfl) ?_
  intro pr en s0 m args below meth cd hx hb hml hr hlk hts hown hin hC hP ls hl
  have hS : va_S A s0.heap s0.heap [] := va_S.rf
  have hfx : CallFix pr m cd cX4_write 4 s0 args wsX4_write RX4 := ⟨hx, hb, hml, hown, hts⟩
  have hu4 : ∀ w ∈ wsX40, w.before args s0 = true := fun w h => hts w ((by decide +kernel : ∀ w ∈ wsX40, w ∈ wsX4_write) w h)
  have hl : lv_has ls 4 [(0, .ref (a 0)), (1, .int (x)), (2, .int (nI v))] := hl
  have m0 := hm.1
  have m1 := hm.2.1
  refine lv_aload_n hx hb dX4_write_0 rfl (lv_at hl 0 rfl) ?_
  refine kV_i (r := nI (s 0 0 0)) (w2 := wM g a s) (As := []) (b := a 0) (rest := []) (A1 := A) hfx (c_X4_first l (n := n) hA (s := s) (x := s 0 0 0) (rfl)) (cwV 0 hts gX4_write_X4_first rfl rfl rfl (by decide +kernel) ⟨by decide, by decide⟩) (va_recv hC.1 hP (ci := 4) rfl (wM_obj)) hC hP hS (fun _ h => h) rfl hl.1 rfl (Nat.le_of_ble_eq_true rfl) dX4_write_1 ⟨Nat.le_of_ble_eq_true rfl, Nat.le_of_ble_eq_true rfl⟩ (fun H locs hP hS _ _ => ?_)
  refine lv_istore_n (lv' := [(3, .int (nI (s 0 0 0))), (0, .ref (a 0)), (1, .int (x)), (2, .int (nI v))]) hx hb dX4_write_4 rfl hl (by decide) rfl (fun ls hl => ?_)
  refine lv_aload_n hx hb dX4_write_5 rfl (lv_at hl 1 rfl) ?_
  refine lv_iload_n hx hb dX4_write_6 rfl (lv_at hl 2 rfl) ?_
  refine lv_if_lt (tgt := 16) hx hb dX4_write_7 (by decide) (fun c7 => ?_) (fun c7 => ?_)
  · skip
    refine k_ic (x := 1) hx hb dX4_write_16 (by decide) ?_
    refine lv_goto (tgt := 45) hx hb dX4_write_17 (by decide) ?_
    refine kV_i (r := nI 1) (w2 := wM g a (w3 s 9 0 0 1)) (As := [.int (nI 1)]) (b := a 0) (rest := []) (A1 := A) hfx (c_X4_throwsIt l (n := n) hA (s := s) (c := 1) (by decide)) (cwV 1 hts gX4_write_X4_throwsIt rfl rfl rfl (by decide +kernel) ⟨by decide, by decide⟩) (va_recv hC.1 hP (ci := 4) rfl (wM_obj)) hC hP hS (fun _ h => h) rfl hl.1 rfl (Nat.le_of_ble_eq_true rfl) dX4_write_45 ⟨Nat.le_of_ble_eq_true rfl, Nat.le_of_ble_eq_true rfl⟩ (fun H locs hP hS _ _ => ?_)
    refine k_if_eq (tgt := 53) hx hb dX4_write_48 (by decide) (by omega) (fun c48 => ?_) (fun c48 => ?_)
    · exfalso; omega
    · skip
      refine k_ic (x := 0) hx hb dX4_write_51 (by decide) ?_
      exact k_iret hx hb hr hlk (by rfl) hP hS dX4_write_52
  · skip
    refine lv_iload_n hx hb dX4_write_10 rfl (lv_at hl 2 rfl) ?_
    refine k_bi (x := 7) hx hb dX4_write_11 (by decide) ?_
    refine lv_icmp_le (tgt := 20) hx hb dX4_write_13 (by decide) (fun c13 => ?_) (fun c13 => ?_)
    · exact absurd c13 (k78 (hbadk.resolve_left c7))
    · skip
      refine k_ic (x := 1) hx hb dX4_write_16 (by decide) ?_
      refine lv_goto (tgt := 45) hx hb dX4_write_17 (by decide) ?_
      refine kV_i (r := nI 1) (w2 := wM g a (w3 s 9 0 0 1)) (As := [.int (nI 1)]) (b := a 0) (rest := []) (A1 := A) hfx (c_X4_throwsIt l (n := n) hA (s := s) (c := 1) (by decide)) (cwV 1 hts gX4_write_X4_throwsIt rfl rfl rfl (by decide +kernel) ⟨by decide, by decide⟩) (va_recv hC.1 hP (ci := 4) rfl (wM_obj)) hC hP hS (fun _ h => h) rfl hl.1 rfl (Nat.le_of_ble_eq_true rfl) dX4_write_45 ⟨Nat.le_of_ble_eq_true rfl, Nat.le_of_ble_eq_true rfl⟩ (fun H locs hP hS _ _ => ?_)
      refine k_if_eq (tgt := 53) hx hb dX4_write_48 (by decide) (by omega) (fun c48 => ?_) (fun c48 => ?_)
      · exfalso; omega
      · skip
        refine k_ic (x := 0) hx hb dX4_write_51 (by decide) ?_
        exact k_iret hx hb hr hlk (by rfl) hP hS dX4_write_52
set_option maxHeartbeats 4000000 in
set_option maxRecDepth 100000 in
/-- write: refused -/
theorem c_X4_write_2 (l : Launch) {g : GG} {a : Nat → Nat} {n : Nat} {A : Nat → Prop} (hA : Ap A a 8) {s : CS} (hm : Mh n s) {j v : Nat} (hj : j < 8) (hbad : s 2 0 (s 0 0 0) ≠ 0 ∨ s 4 0 (s 0 0 0) = 40) : Met l yX4_write wsX4_write ({ frames := 2, cells := 0, slots := 0, locals := 43 }) (pC g [.ref (a 0), .int (nI j), .int (nI v)] (wM g a s)) (qI g (nI 0) (wM g a (w3 s 9 0 0 2)) A) 0 0 A := by
  refine k_start (cc := cX4_write) (maxL := 4) (ret := (some .int)) (by decide) rfl (Nat.le_of_ble_eq_true rfl) ?_
  intro pr en s0 m args below meth cd hx hb hml hr hlk hts hown hin hC hP ls hl
  have hS : va_S A s0.heap s0.heap [] := va_S.rf
  have hfx : CallFix pr m cd cX4_write 4 s0 args wsX4_write RX4 := ⟨hx, hb, hml, hown, hts⟩
  have hu4 : ∀ w ∈ wsX40, w.before args s0 = true := fun w h => hts w ((by decide +kernel : ∀ w ∈ wsX40, w ∈ wsX4_write) w h)
  have hl : lv_has ls 4 [(0, .ref (a 0)), (1, .int (nI j)), (2, .int (nI v))] := hl
  have m0 := hm.1
  have m1 := hm.2.1
  have f1 := hm.ch 0 (by omega)
  have f2 := hm.nd _ f1
  refine lv_aload_n hx hb dX4_write_0 rfl (lv_at hl 0 rfl) ?_
  refine kV_i (r := nI (s 0 0 0)) (w2 := wM g a s) (As := []) (b := a 0) (rest := []) (A1 := A) hfx (c_X4_first l (n := n) hA (s := s) (x := s 0 0 0) (rfl)) (cwV 0 hts gX4_write_X4_first rfl rfl rfl (by decide +kernel) ⟨by decide, by decide⟩) (va_recv hC.1 hP (ci := 4) rfl (wM_obj)) hC hP hS (fun _ h => h) rfl hl.1 rfl (Nat.le_of_ble_eq_true rfl) dX4_write_1 ⟨Nat.le_of_ble_eq_true rfl, Nat.le_of_ble_eq_true rfl⟩ (fun H locs hP hS _ _ => ?_)
  refine lv_istore_n (lv' := [(3, .int (nI (s 0 0 0))), (0, .ref (a 0)), (1, .int (nI j)), (2, .int (nI v))]) hx hb dX4_write_4 rfl hl (by decide) rfl (fun ls hl => ?_)
  refine lv_aload_n hx hb dX4_write_5 rfl (lv_at hl 1 rfl) ?_
  refine lv_iload_n hx hb dX4_write_6 rfl (lv_at hl 2 rfl) ?_
  refine lv_if_lt (tgt := 16) hx hb dX4_write_7 (by decide) (fun c7 => ?_) (fun c7 => ?_)
  · exact absurd c7 (nI_pos (by omega))
  · skip
    refine lv_iload_n hx hb dX4_write_10 rfl (lv_at hl 2 rfl) ?_
    refine k_bi (x := 7) hx hb dX4_write_11 (by decide) ?_
    refine k_icmp_le (tgt := 20) hx hb dX4_write_13 (by decide) (by omega) (by omega) (fun c13 => ?_) (fun c13 => ?_)
    · skip
      refine lv_aload_n hx hb dX4_write_20 rfl (lv_at hl 1 rfl) ?_
      refine va_get (D := g.1) (C := RX4) (T := TX4) (N := 11) (ci := 4) hx hb hu4 (fun _ h => h) hown hC.1 hP _ (wM_obj) rfl 4 (by decide) (hts (.fieldLink RX4 13 "SplicedChainModel" "failed" "[Z") (by decide +kernel)) (fun _ h9 => h9) rfl dX4_write_21 ?_
      refine lv_iload_n hx hb dX4_write_24 rfl (lv_at hl 0 rfl) ?_
      refine k_zald hx hb hC hP _ (wM_failed) (j := s 0 0 0) (by omega) (by omega) dX4_write_25 ?_
      refine k_if_ne (tgt := 40) hx hb dX4_write_26 (by decide) (by omega) (fun c26 => ?_) (fun c26 => ?_)
      · skip
        refine k_ic (x := 2) hx hb dX4_write_40 (by decide) ?_
        refine lv_goto (tgt := 45) hx hb dX4_write_41 (by decide) ?_
        refine kV_i (r := nI 1) (w2 := wM g a (w3 s 9 0 0 2)) (As := [.int (nI 2)]) (b := a 0) (rest := []) (A1 := A) hfx (c_X4_throwsIt l (n := n) hA (s := s) (c := 2) (by decide)) (cwV 1 hts gX4_write_X4_throwsIt rfl rfl rfl (by decide +kernel) ⟨by decide, by decide⟩) (va_recv hC.1 hP (ci := 4) rfl (wM_obj)) hC hP hS (fun _ h => h) rfl hl.1 rfl (Nat.le_of_ble_eq_true rfl) dX4_write_45 ⟨Nat.le_of_ble_eq_true rfl, Nat.le_of_ble_eq_true rfl⟩ (fun H locs hP hS _ _ => ?_)
        refine k_if_eq (tgt := 53) hx hb dX4_write_48 (by decide) (by omega) (fun c48 => ?_) (fun c48 => ?_)
        · exfalso; omega
        · skip
          refine k_ic (x := 0) hx hb dX4_write_51 (by decide) ?_
          exact k_iret hx hb hr hlk (by rfl) hP hS dX4_write_52
      · skip
        refine lv_aload_n hx hb dX4_write_29 rfl (lv_at hl 1 rfl) ?_
        refine va_get (D := g.1) (C := RX4) (T := TX4) (N := 11) (ci := 4) hx hb hu4 (fun _ h => h) hown hC.1 hP _ (wM_obj) rfl 6 (by decide) (hts (.fieldLink RX4 20 "SplicedChainModel" "history" "[I") (by decide +kernel)) (fun _ h9 => h9) rfl dX4_write_30 ?_
        refine lv_iload_n hx hb dX4_write_33 rfl (lv_at hl 0 rfl) ?_
        refine k_iald hx hb hC hP _ (wM_history) (j := s 0 0 0) (by omega) (by omega) dX4_write_34 ?_
        refine k_bi (x := 40) hx hb dX4_write_35 (by decide) ?_
        refine k_icmp_ne (tgt := 44) hx hb dX4_write_37 (by decide) (by omega) (by omega) (fun c37 => ?_) (fun c37 => ?_)
        · exfalso; omega
        · skip
          refine k_ic (x := 2) hx hb dX4_write_40 (by decide) ?_
          refine lv_goto (tgt := 45) hx hb dX4_write_41 (by decide) ?_
          refine kV_i (r := nI 1) (w2 := wM g a (w3 s 9 0 0 2)) (As := [.int (nI 2)]) (b := a 0) (rest := []) (A1 := A) hfx (c_X4_throwsIt l (n := n) hA (s := s) (c := 2) (by decide)) (cwV 1 hts gX4_write_X4_throwsIt rfl rfl rfl (by decide +kernel) ⟨by decide, by decide⟩) (va_recv hC.1 hP (ci := 4) rfl (wM_obj)) hC hP hS (fun _ h => h) rfl hl.1 rfl (Nat.le_of_ble_eq_true rfl) dX4_write_45 ⟨Nat.le_of_ble_eq_true rfl, Nat.le_of_ble_eq_true rfl⟩ (fun H locs hP hS _ _ => ?_)
          refine k_if_eq (tgt := 53) hx hb dX4_write_48 (by decide) (by omega) (fun c48 => ?_) (fun c48 => ?_)
          · exfalso; omega
          · skip
            refine k_ic (x := 0) hx hb dX4_write_51 (by decide) ?_
            exact k_iret hx hb hr hlk (by rfl) hP hS dX4_write_52
    · exfalso; omega
set_option maxHeartbeats 4000000 in
set_option maxRecDepth 100000 in
/-- read -/
theorem c_X4_read (l : Launch) {g : GG} {a : Nat → Nat} {n : Nat} {A : Nat → Prop} (hA : Ap A a 8) {s : CS} (hm : Mh n s) {j : Nat} (hj : j < 8) (hfl : s 2 0 (s 0 0 (s 1 0 0 - 1)) = 0) : Met l yX4_read wsX4_read ({ frames := 1, cells := 0, slots := 0, locals := 24 }) (pC g [.ref (a 0), .int (nI j)] (wM g a s)) (qI g (nI (valF (w3 s 9 0 0 0) (s 0 0 (s 1 0 0 - 1)) j (s 4 0 (s 0 0 (s 1 0 0 - 1))))) (wM g a (w3 s 9 0 0 0)) A) 0 0 A := by
  refine k_start (cc := cX4_read) (maxL := 3) (ret := (some .int)) (by decide) rfl (Nat.le_of_ble_eq_true rfl) ?_
  intro pr en s0 m args below meth cd hx hb hml hr hlk hts hown hin hC hP ls hl
  have hS : va_S A s0.heap s0.heap [] := va_S.rf
  have hfx : CallFix pr m cd cX4_read 3 s0 args wsX4_read RX4 := ⟨hx, hb, hml, hown, hts⟩
  have hu4 : ∀ w ∈ wsX40, w.before args s0 = true := fun w h => hts w ((by decide +kernel : ∀ w ∈ wsX40, w ∈ wsX4_read) w h)
  have hl : lv_has ls 3 [(0, .ref (a 0)), (1, .int (nI j))] := hl
  have m0 := hm.1
  have m1 := hm.2.1
  have f1 := hm.ch (s 1 0 0 - 1) (by omega)
  refine lv_aload_n hx hb dX4_read_0 rfl (lv_at hl 0 rfl) ?_
  refine kV_i (r := nI (s 0 0 (s 1 0 0 - 1))) (w2 := wM g a s) (As := []) (b := a 0) (rest := []) (A1 := A) hfx (c_X4_last l (n := n) hA (s := s) (L := s 1 0 0) (x := s 0 0 (s 1 0 0 - 1)) (rfl) (rfl) (by omega)) (cwV 0 hts gX4_read_X4_last rfl rfl rfl (by decide +kernel) ⟨by decide, by decide⟩) (va_recv hC.1 hP (ci := 4) rfl (wM_obj)) hC hP hS (fun _ h => h) rfl hl.1 rfl (Nat.le_of_ble_eq_true rfl) dX4_read_1 ⟨Nat.le_of_ble_eq_true rfl, Nat.le_of_ble_eq_true rfl⟩ (fun H locs hP hS _ _ => ?_)
  refine lv_istore_n (lv' := [(2, .int (nI (s 0 0 (s 1 0 0 - 1)))), (0, .ref (a 0)), (1, .int (nI j))]) hx hb dX4_read_4 rfl hl (by decide) rfl (fun ls hl => ?_)
  refine lv_aload_n hx hb dX4_read_5 rfl (lv_at hl 1 rfl) ?_
  refine lv_iload_n hx hb dX4_read_6 rfl (lv_at hl 2 rfl) ?_
  refine lv_if_lt (tgt := 16) hx hb dX4_read_7 (by decide) (fun c7 => ?_) (fun c7 => ?_)
  · exact absurd c7 (nI_pos (by omega))
  · skip
    refine lv_iload_n hx hb dX4_read_10 rfl (lv_at hl 2 rfl) ?_
    refine k_bi (x := 7) hx hb dX4_read_11 (by decide) ?_
    refine k_icmp_le (tgt := 20) hx hb dX4_read_13 (by decide) (by omega) (by omega) (fun c13 => ?_) (fun c13 => ?_)
    · skip
      refine lv_aload_n hx hb dX4_read_20 rfl (lv_at hl 1 rfl) ?_
      refine va_get (D := g.1) (C := RX4) (T := TX4) (N := 11) (ci := 4) hx hb hu4 (fun _ h => h) hown hC.1 hP _ (wM_obj) rfl 4 (by decide) (hts (.fieldLink RX4 13 "SplicedChainModel" "failed" "[Z") (by decide +kernel)) (fun _ h9 => h9) rfl dX4_read_21 ?_
      refine lv_iload_n hx hb dX4_read_24 rfl (lv_at hl 0 rfl) ?_
      refine k_zald hx hb hC hP _ (wM_failed) (j := s 0 0 (s 1 0 0 - 1)) (by omega) (by omega) dX4_read_25 ?_
      refine k_if_eq (tgt := 33) hx hb dX4_read_26 (by decide) (by omega) (fun c26 => ?_) (fun c26 => ?_)
      · skip
        refine k_ic (x := 0) hx hb dX4_read_33 (by decide) ?_
        refine kV_i (r := nI 0) (w2 := wM g a (w3 s 9 0 0 0)) (As := [.int (nI 0)]) (b := a 0) (rest := []) (A1 := A) hfx (c_X4_throwsIt_0 l (n := n) hA (s := s)) (cwV 1 hts gX4_read_X4_throwsIt rfl rfl rfl (by decide +kernel) ⟨by decide, by decide⟩) (va_recv hC.1 hP (ci := 4) rfl (wM_obj)) hC hP hS (fun _ h => h) rfl hl.1 rfl (Nat.le_of_ble_eq_true rfl) dX4_read_34 ⟨Nat.le_of_ble_eq_true rfl, Nat.le_of_ble_eq_true rfl⟩ (fun H locs hP hS _ _ => ?_)
        refine k_if_eq (tgt := 42) hx hb dX4_read_37 (by decide) (by omega) (fun c37 => ?_) (fun c37 => ?_)
        · skip
          refine lv_aload_n hx hb dX4_read_42 rfl (lv_at hl 1 rfl) ?_
          refine lv_iload_n hx hb dX4_read_43 rfl (lv_at hl 0 rfl) ?_
          refine lv_iload_n hx hb dX4_read_44 rfl (lv_at hl 2 rfl) ?_
          refine kV_i (r := nI (valF (w3 s 9 0 0 0) (s 0 0 (s 1 0 0 - 1)) j ((w3 s 9 0 0 0) 4 0 (s 0 0 (s 1 0 0 - 1))))) (w2 := wM g a (w3 s 9 0 0 0)) (As := [.int (nI (s 0 0 (s 1 0 0 - 1))), .int (nI j)]) (b := a 0) (rest := []) (A1 := A) hfx (c_X4_valueOf l hA (s := (w3 s 9 0 0 0)) (hm.m9) (nd := s 0 0 (s 1 0 0 - 1)) (k := j) (by omega) (by omega)) (cwV 2 hts gX4_read_X4_valueOf rfl rfl rfl (by decide +kernel) ⟨by decide, by decide⟩) (va_recv hC.1 hP (ci := 4) rfl (wM_obj)) hC hP hS (fun _ h => h) rfl hl.1 rfl (Nat.le_of_ble_eq_true rfl) dX4_read_45 ⟨Nat.le_of_ble_eq_true rfl, Nat.le_of_ble_eq_true rfl⟩ (fun H locs hP hS _ _ => ?_)
          exact k_iret hx hb hr hlk (by simp [w3]) hP hS dX4_read_48
        · exfalso; omega
      · exfalso; omega
    · exfalso; omega
set_option maxHeartbeats 4000000 in
set_option maxRecDepth 100000 in
/-- read: no key -/
theorem c_X4_read_1 (l : Launch) {g : GG} {a : Nat → Nat} {n : Nat} {A : Nat → Prop} (hA : Ap A a 8) {s : CS} (hm : Mh n s) {x : Int32} (hbadk : x < 0 ∨ nI 8 ≤ x) : Met l yX4_read wsX4_read ({ frames := 1, cells := 0, slots := 0, locals := 24 }) (pC g [.ref (a 0), .int (x)] (wM g a s)) (qI g (nI 0) (wM g a (w3 s 9 0 0 1)) A) 0 0 A := by
  refine k_start (cc := cX4_read) (maxL := 3) (ret := (some .int)) (by decide) rfl (Nat.le_of_ble_eq_true rfl) ?_
  intro pr en s0 m args below meth cd hx hb hml hr hlk hts hown hin hC hP ls hl
  have hS : va_S A s0.heap s0.heap [] := va_S.rf
  have hfx : CallFix pr m cd cX4_read 3 s0 args wsX4_read RX4 := ⟨hx, hb, hml, hown, hts⟩
  have hu4 : ∀ w ∈ wsX40, w.before args s0 = true := fun w h => hts w ((by decide +kernel : ∀ w ∈ wsX40, w ∈ wsX4_read) w h)
  have hl : lv_has ls 3 [(0, .ref (a 0)), (1, .int (x))] := hl
  have m0 := hm.1
  have m1 := hm.2.1
  refine lv_aload_n hx hb dX4_read_0 rfl (lv_at hl 0 rfl) ?_
  refine kV_i (r := nI (s 0 0 (s 1 0 0 - 1))) (w2 := wM g a s) (As := []) (b := a 0) (rest := []) (A1 := A) hfx (c_X4_last l (n := n) hA (s := s) (L := s 1 0 0) (x := s 0 0 (s 1 0 0 - 1)) (rfl) (rfl) (by omega)) (cwV 0 hts gX4_read_X4_last rfl rfl rfl (by decide +kernel) ⟨by decide, by decide⟩) (va_recv hC.1 hP (ci := 4) rfl (wM_obj)) hC hP hS (fun _ h => h) rfl hl.1 rfl (Nat.le_of_ble_eq_true rfl) dX4_read_1 ⟨Nat.le_of_ble_eq_true rfl, Nat.le_of_ble_eq_true rfl⟩ (fun H locs hP hS _ _ => ?_)
  refine lv_istore_n (lv' := [(2, .int (nI (s 0 0 (s 1 0 0 - 1)))), (0, .ref (a 0)), (1, .int (x))]) hx hb dX4_read_4 rfl hl (by decide) rfl (fun ls hl => ?_)
  refine lv_aload_n hx hb dX4_read_5 rfl (lv_at hl 1 rfl) ?_
  refine lv_iload_n hx hb dX4_read_6 rfl (lv_at hl 2 rfl) ?_
  refine lv_if_lt (tgt := 16) hx hb dX4_read_7 (by decide) (fun c7 => ?_) (fun c7 => ?_)
  · skip
    refine k_ic (x := 1) hx hb dX4_read_16 (by decide) ?_
    refine lv_goto (tgt := 34) hx hb dX4_read_17 (by decide) ?_
    refine kV_i (r := nI 1) (w2 := wM g a (w3 s 9 0 0 1)) (As := [.int (nI 1)]) (b := a 0) (rest := []) (A1 := A) hfx (c_X4_throwsIt l (n := n) hA (s := s) (c := 1) (by decide)) (cwV 1 hts gX4_read_X4_throwsIt rfl rfl rfl (by decide +kernel) ⟨by decide, by decide⟩) (va_recv hC.1 hP (ci := 4) rfl (wM_obj)) hC hP hS (fun _ h => h) rfl hl.1 rfl (Nat.le_of_ble_eq_true rfl) dX4_read_34 ⟨Nat.le_of_ble_eq_true rfl, Nat.le_of_ble_eq_true rfl⟩ (fun H locs hP hS _ _ => ?_)
    refine k_if_eq (tgt := 42) hx hb dX4_read_37 (by decide) (by omega) (fun c37 => ?_) (fun c37 => ?_)
    · exfalso; omega
    · skip
      refine k_ic (x := 0) hx hb dX4_read_40 (by decide) ?_
      exact k_iret hx hb hr hlk (by rfl) hP hS dX4_read_41
  · skip
    refine lv_iload_n hx hb dX4_read_10 rfl (lv_at hl 2 rfl) ?_
    refine k_bi (x := 7) hx hb dX4_read_11 (by decide) ?_
    refine lv_icmp_le (tgt := 20) hx hb dX4_read_13 (by decide) (fun c13 => ?_) (fun c13 => ?_)
    · exact absurd c13 (k78 (hbadk.resolve_left c7))
    · skip
      refine k_ic (x := 1) hx hb dX4_read_16 (by decide) ?_
      refine lv_goto (tgt := 34) hx hb dX4_read_17 (by decide) ?_
      refine kV_i (r := nI 1) (w2 := wM g a (w3 s 9 0 0 1)) (As := [.int (nI 1)]) (b := a 0) (rest := []) (A1 := A) hfx (c_X4_throwsIt l (n := n) hA (s := s) (c := 1) (by decide)) (cwV 1 hts gX4_read_X4_throwsIt rfl rfl rfl (by decide +kernel) ⟨by decide, by decide⟩) (va_recv hC.1 hP (ci := 4) rfl (wM_obj)) hC hP hS (fun _ h => h) rfl hl.1 rfl (Nat.le_of_ble_eq_true rfl) dX4_read_34 ⟨Nat.le_of_ble_eq_true rfl, Nat.le_of_ble_eq_true rfl⟩ (fun H locs hP hS _ _ => ?_)
      refine k_if_eq (tgt := 42) hx hb dX4_read_37 (by decide) (by omega) (fun c37 => ?_) (fun c37 => ?_)
      · exfalso; omega
      · skip
        refine k_ic (x := 0) hx hb dX4_read_40 (by decide) ?_
        exact k_iret hx hb hr hlk (by rfl) hP hS dX4_read_41
set_option maxHeartbeats 4000000 in
set_option maxRecDepth 100000 in
/-- read: refused -/
theorem c_X4_read_2 (l : Launch) {g : GG} {a : Nat → Nat} {n : Nat} {A : Nat → Prop} (hA : Ap A a 8) {s : CS} (hm : Mh n s) {j : Nat} (hj : j < 8) (hfl : s 2 0 (s 0 0 (s 1 0 0 - 1)) ≠ 0) : Met l yX4_read wsX4_read ({ frames := 1, cells := 0, slots := 0, locals := 24 }) (pC g [.ref (a 0), .int (nI j)] (wM g a s)) (qI g (nI 0) (wM g a (w3 s 9 0 0 2)) A) 0 0 A := by
  refine k_start (cc := cX4_read) (maxL := 3) (ret := (some .int)) (by decide) rfl (Nat.le_of_ble_eq_true rfl) ?_
  intro pr en s0 m args below meth cd hx hb hml hr hlk hts hown hin hC hP ls hl
  have hS : va_S A s0.heap s0.heap [] := va_S.rf
  have hfx : CallFix pr m cd cX4_read 3 s0 args wsX4_read RX4 := ⟨hx, hb, hml, hown, hts⟩
  have hu4 : ∀ w ∈ wsX40, w.before args s0 = true := fun w h => hts w ((by decide +kernel : ∀ w ∈ wsX40, w ∈ wsX4_read) w h)
  have hl : lv_has ls 3 [(0, .ref (a 0)), (1, .int (nI j))] := hl
  have m0 := hm.1
  have m1 := hm.2.1
  have f1 := hm.ch (s 1 0 0 - 1) (by omega)
  have f2 := hm.nd _ f1
  refine lv_aload_n hx hb dX4_read_0 rfl (lv_at hl 0 rfl) ?_
  refine kV_i (r := nI (s 0 0 (s 1 0 0 - 1))) (w2 := wM g a s) (As := []) (b := a 0) (rest := []) (A1 := A) hfx (c_X4_last l (n := n) hA (s := s) (L := s 1 0 0) (x := s 0 0 (s 1 0 0 - 1)) (rfl) (rfl) (by omega)) (cwV 0 hts gX4_read_X4_last rfl rfl rfl (by decide +kernel) ⟨by decide, by decide⟩) (va_recv hC.1 hP (ci := 4) rfl (wM_obj)) hC hP hS (fun _ h => h) rfl hl.1 rfl (Nat.le_of_ble_eq_true rfl) dX4_read_1 ⟨Nat.le_of_ble_eq_true rfl, Nat.le_of_ble_eq_true rfl⟩ (fun H locs hP hS _ _ => ?_)
  refine lv_istore_n (lv' := [(2, .int (nI (s 0 0 (s 1 0 0 - 1)))), (0, .ref (a 0)), (1, .int (nI j))]) hx hb dX4_read_4 rfl hl (by decide) rfl (fun ls hl => ?_)
  refine lv_aload_n hx hb dX4_read_5 rfl (lv_at hl 1 rfl) ?_
  refine lv_iload_n hx hb dX4_read_6 rfl (lv_at hl 2 rfl) ?_
  refine lv_if_lt (tgt := 16) hx hb dX4_read_7 (by decide) (fun c7 => ?_) (fun c7 => ?_)
  · exact absurd c7 (nI_pos (by omega))
  · skip
    refine lv_iload_n hx hb dX4_read_10 rfl (lv_at hl 2 rfl) ?_
    refine k_bi (x := 7) hx hb dX4_read_11 (by decide) ?_
    refine k_icmp_le (tgt := 20) hx hb dX4_read_13 (by decide) (by omega) (by omega) (fun c13 => ?_) (fun c13 => ?_)
    · skip
      refine lv_aload_n hx hb dX4_read_20 rfl (lv_at hl 1 rfl) ?_
      refine va_get (D := g.1) (C := RX4) (T := TX4) (N := 11) (ci := 4) hx hb hu4 (fun _ h => h) hown hC.1 hP _ (wM_obj) rfl 4 (by decide) (hts (.fieldLink RX4 13 "SplicedChainModel" "failed" "[Z") (by decide +kernel)) (fun _ h9 => h9) rfl dX4_read_21 ?_
      refine lv_iload_n hx hb dX4_read_24 rfl (lv_at hl 0 rfl) ?_
      refine k_zald hx hb hC hP _ (wM_failed) (j := s 0 0 (s 1 0 0 - 1)) (by omega) (by omega) dX4_read_25 ?_
      refine k_if_eq (tgt := 33) hx hb dX4_read_26 (by decide) (by omega) (fun c26 => ?_) (fun c26 => ?_)
      · exfalso; omega
      · skip
        refine k_ic (x := 2) hx hb dX4_read_29 (by decide) ?_
        refine lv_goto (tgt := 34) hx hb dX4_read_30 (by decide) ?_
        refine kV_i (r := nI 1) (w2 := wM g a (w3 s 9 0 0 2)) (As := [.int (nI 2)]) (b := a 0) (rest := []) (A1 := A) hfx (c_X4_throwsIt l (n := n) hA (s := s) (c := 2) (by decide)) (cwV 1 hts gX4_read_X4_throwsIt rfl rfl rfl (by decide +kernel) ⟨by decide, by decide⟩) (va_recv hC.1 hP (ci := 4) rfl (wM_obj)) hC hP hS (fun _ h => h) rfl hl.1 rfl (Nat.le_of_ble_eq_true rfl) dX4_read_34 ⟨Nat.le_of_ble_eq_true rfl, Nat.le_of_ble_eq_true rfl⟩ (fun H locs hP hS _ _ => ?_)
        refine k_if_eq (tgt := 42) hx hb dX4_read_37 (by decide) (by omega) (fun c37 => ?_) (fun c37 => ?_)
        · exfalso; omega
        · skip
          refine k_ic (x := 0) hx hb dX4_read_40 (by decide) ?_
          exact k_iret hx hb hr hlk (by rfl) hP hS dX4_read_41
    · exfalso; omega
set_option maxHeartbeats 4000000 in
set_option maxRecDepth 100000 in
/-- deliver: no node -/
theorem c_X4_deliver_1 (l : Launch) {g : GG} {a : Nat → Nat} {n : Nat} {A : Nat → Prop} (hA : Ap A a 8) {s : CS} (hm : Mh n s) {x : Int32} (hbad : x < 0 ∨ nI n ≤ x) : Met l yX4_deliver wsX4_deliver ({ frames := 2, cells := 0, slots := 0, locals := 45 }) (pC g [.ref (a 0), .int (x)] (wM g a s)) (qI g (nI 0) (wM g a (w3 s 9 0 0 1)) A) 0 0 A := by
  refine k_start (cc := cX4_deliver) (maxL := 4) (ret := (some .int)) (by decide) rfl (Nat.le_of_ble_eq_true rfl) ?_
  intro pr en s0 m args below meth cd hx hb hml hr hlk hts hown hin hC hP ls hl
  have hS : va_S A s0.heap s0.heap [] := va_S.rf
  have hfx : CallFix pr m cd cX4_deliver 4 s0 args wsX4_deliver RX4 := ⟨hx, hb, hml, hown, hts⟩
  have hu4 : ∀ w ∈ wsX40, w.before args s0 = true := fun w h => hts w ((by decide +kernel : ∀ w ∈ wsX40, w ∈ wsX4_deliver) w h)
  have hl : lv_has ls 4 [(0, .ref (a 0)), (1, .int (x))] := hl
  have m0 := hm.1
  have m1 := hm.2.1
  refine lv_aload_n hx hb dX4_deliver_0 rfl (lv_at hl 0 rfl) ?_
  refine lv_aload_n hx hb dX4_deliver_1 rfl (lv_at hl 0 rfl) ?_
  refine lv_iload_n hx hb dX4_deliver_2 rfl (lv_at hl 1 rfl) ?_
  refine kV_i (r := nI 0) (w2 := wM g a s) (As := [.int (x)]) (b := a 0) (rest := [.ref (a 0)]) (A1 := A) hfx (c_X4_isNode_no l hA (s := s) (hm) (x := x) hbad) (cwV 1 hts gX4_deliver_X4_isNode rfl rfl rfl (by decide +kernel) ⟨by decide, by decide⟩) (va_recv hC.1 hP (ci := 4) rfl (wM_obj)) hC hP hS (fun _ h => h) rfl hl.1 rfl (Nat.le_of_ble_eq_true rfl) dX4_deliver_3 ⟨Nat.le_of_ble_eq_true rfl, Nat.le_of_ble_eq_true rfl⟩ (fun H locs hP hS _ _ => ?_)
  refine k_if_ne (tgt := 13) hx hb dX4_deliver_6 (by decide) (by omega) (fun c6 => ?_) (fun c6 => ?_)
  · exfalso; omega
  · skip
    refine k_ic (x := 1) hx hb dX4_deliver_9 (by decide) ?_
    refine lv_goto (tgt := 39) hx hb dX4_deliver_10 (by decide) ?_
    refine kV_i (r := nI 1) (w2 := wM g a (w3 s 9 0 0 1)) (As := [.int (nI 1)]) (b := a 0) (rest := []) (A1 := A) hfx (c_X4_throwsIt l (n := n) hA (s := s) (c := 1) (by decide)) (cwV 1 hts gX4_deliver_X4_throwsIt rfl rfl rfl (by decide +kernel) ⟨by decide, by decide⟩) (va_recv hC.1 hP (ci := 4) rfl (wM_obj)) hC hP hS (fun _ h => h) rfl hl.1 rfl (Nat.le_of_ble_eq_true rfl) dX4_deliver_39 ⟨Nat.le_of_ble_eq_true rfl, Nat.le_of_ble_eq_true rfl⟩ (fun H locs hP hS _ _ => ?_)
    refine k_if_eq (tgt := 47) hx hb dX4_deliver_42 (by decide) (by omega) (fun c42 => ?_) (fun c42 => ?_)
    · exfalso; omega
    · skip
      refine k_ic (x := 0) hx hb dX4_deliver_45 (by decide) ?_
      exact k_iret hx hb hr hlk (by rfl) hP hS dX4_deliver_46
set_option maxHeartbeats 4000000 in
set_option maxRecDepth 100000 in
/-- deliver: failed -/
theorem c_X4_deliver_2 (l : Launch) {g : GG} {a : Nat → Nat} {n : Nat} {A : Nat → Prop} (hA : Ap A a 8) {s : CS} (hm : Mh n s) {nd : Nat} (hnd : nd < n) (hfl : s 2 0 nd ≠ 0) : Met l yX4_deliver wsX4_deliver ({ frames := 2, cells := 0, slots := 0, locals := 45 }) (pC g [.ref (a 0), .int (nI nd)] (wM g a s)) (qI g (nI 0) (wM g a (w3 s 9 0 0 2)) A) 0 0 A := by
  refine k_start (cc := cX4_deliver) (maxL := 4) (ret := (some .int)) (by decide) rfl (Nat.le_of_ble_eq_true rfl) ?_
  intro pr en s0 m args below meth cd hx hb hml hr hlk hts hown hin hC hP ls hl
  have hS : va_S A s0.heap s0.heap [] := va_S.rf
  have hfx : CallFix pr m cd cX4_deliver 4 s0 args wsX4_deliver RX4 := ⟨hx, hb, hml, hown, hts⟩
  have hu4 : ∀ w ∈ wsX40, w.before args s0 = true := fun w h => hts w ((by decide +kernel : ∀ w ∈ wsX40, w ∈ wsX4_deliver) w h)
  have hl : lv_has ls 4 [(0, .ref (a 0)), (1, .int (nI nd))] := hl
  have m0 := hm.1
  have m1 := hm.2.1
  have f2 := hm.nd nd (by omega)
  refine lv_aload_n hx hb dX4_deliver_0 rfl (lv_at hl 0 rfl) ?_
  refine lv_aload_n hx hb dX4_deliver_1 rfl (lv_at hl 0 rfl) ?_
  refine lv_iload_n hx hb dX4_deliver_2 rfl (lv_at hl 1 rfl) ?_
  refine kV_i (r := nI 1) (w2 := wM g a s) (As := [.int (nI nd)]) (b := a 0) (rest := [.ref (a 0)]) (A1 := A) hfx (c_X4_isNode l hA (s := s) (hm) (j := nd) (by omega)) (cwV 1 hts gX4_deliver_X4_isNode rfl rfl rfl (by decide +kernel) ⟨by decide, by decide⟩) (va_recv hC.1 hP (ci := 4) rfl (wM_obj)) hC hP hS (fun _ h => h) rfl hl.1 rfl (Nat.le_of_ble_eq_true rfl) dX4_deliver_3 ⟨Nat.le_of_ble_eq_true rfl, Nat.le_of_ble_eq_true rfl⟩ (fun H locs hP hS _ _ => ?_)
  refine k_if_ne (tgt := 13) hx hb dX4_deliver_6 (by decide) (by omega) (fun c6 => ?_) (fun c6 => ?_)
  · skip
    refine lv_aload_n hx hb dX4_deliver_13 rfl (lv_at hl 0 rfl) ?_
    refine va_get (D := g.1) (C := RX4) (T := TX4) (N := 11) (ci := 4) hx hb hu4 (fun _ h => h) hown hC.1 hP _ (wM_obj) rfl 4 (by decide) (hts (.fieldLink RX4 13 "SplicedChainModel" "failed" "[Z") (by decide +kernel)) (fun _ h9 => h9) rfl dX4_deliver_14 ?_
    refine lv_iload_n hx hb dX4_deliver_17 rfl (lv_at hl 1 rfl) ?_
    refine k_zald hx hb hC hP _ (wM_failed) (j := nd) (by omega) (by omega) dX4_deliver_18 ?_
    refine k_if_eq (tgt := 26) hx hb dX4_deliver_19 (by decide) (by omega) (fun c19 => ?_) (fun c19 => ?_)
    · exfalso; omega
    · skip
      refine k_ic (x := 2) hx hb dX4_deliver_22 (by decide) ?_
      refine lv_goto (tgt := 39) hx hb dX4_deliver_23 (by decide) ?_
      refine kV_i (r := nI 1) (w2 := wM g a (w3 s 9 0 0 2)) (As := [.int (nI 2)]) (b := a 0) (rest := []) (A1 := A) hfx (c_X4_throwsIt l (n := n) hA (s := s) (c := 2) (by decide)) (cwV 1 hts gX4_deliver_X4_throwsIt rfl rfl rfl (by decide +kernel) ⟨by decide, by decide⟩) (va_recv hC.1 hP (ci := 4) rfl (wM_obj)) hC hP hS (fun _ h => h) rfl hl.1 rfl (Nat.le_of_ble_eq_true rfl) dX4_deliver_39 ⟨Nat.le_of_ble_eq_true rfl, Nat.le_of_ble_eq_true rfl⟩ (fun H locs hP hS _ _ => ?_)
      refine k_if_eq (tgt := 47) hx hb dX4_deliver_42 (by decide) (by omega) (fun c42 => ?_) (fun c42 => ?_)
      · exfalso; omega
      · skip
        refine k_ic (x := 0) hx hb dX4_deliver_45 (by decide) ?_
        exact k_iret hx hb hr hlk (by rfl) hP hS dX4_deliver_46
  · exfalso; omega
set_option maxHeartbeats 4000000 in
set_option maxRecDepth 100000 in
/-- deliver: nothing there -/
theorem c_X4_deliver_3 (l : Launch) {g : GG} {a : Nat → Nat} {n : Nat} {A : Nat → Prop} (hA : Ap A a 8) {s : CS} (hm : Mh n s) {p nd U : Nat} (hnd : nd < n) (hp : p < s 1 0 0) (hpe : s 0 0 p = nd) (hu : ∀ k, k < s 1 0 0 → k ≠ p → s 0 0 k ≠ nd) (hfl : s 2 0 nd = 0) (hle : 0 < p → s 4 0 nd ≤ s 4 0 (s 0 0 (p - 1))) (hU : (if 0 < p ∧ s 3 0 (s 0 0 (p - 1)) ≠ 0 then s 4 0 (s 0 0 (p - 1)) - s 4 0 nd else 0) = U) (h0 : U = 0) : Met l yX4_deliver wsX4_deliver ({ frames := 2, cells := 0, slots := 0, locals := 45 }) (pC g [.ref (a 0), .int (nI nd)] (wM g a s)) (qI g (nI 0) (wM g a (w3 s 9 0 0 3)) A) 0 0 A := by
  refine k_start (cc := cX4_deliver) (maxL := 4) (ret := (some .int)) (by decide) rfl (Nat.le_of_ble_eq_true rfl) ?_
  intro pr en s0 m args below meth cd hx hb hml hr hlk hts hown hin hC hP ls hl
  have hS : va_S A s0.heap s0.heap [] := va_S.rf
  have hfx : CallFix pr m cd cX4_deliver 4 s0 args wsX4_deliver RX4 := ⟨hx, hb, hml, hown, hts⟩
  have hu4 : ∀ w ∈ wsX40, w.before args s0 = true := fun w h => hts w ((by decide +kernel : ∀ w ∈ wsX40, w ∈ wsX4_deliver) w h)
  have hl : lv_has ls 4 [(0, .ref (a 0)), (1, .int (nI nd))] := hl
  have m0 := hm.1
  have m1 := hm.2.1
  refine lv_aload_n hx hb dX4_deliver_0 rfl (lv_at hl 0 rfl) ?_
  refine lv_aload_n hx hb dX4_deliver_1 rfl (lv_at hl 0 rfl) ?_
  refine lv_iload_n hx hb dX4_deliver_2 rfl (lv_at hl 1 rfl) ?_
  refine kV_i (r := nI 1) (w2 := wM g a s) (As := [.int (nI nd)]) (b := a 0) (rest := [.ref (a 0)]) (A1 := A) hfx (c_X4_isNode l hA (s := s) (hm) (j := nd) (by omega)) (cwV 1 hts gX4_deliver_X4_isNode rfl rfl rfl (by decide +kernel) ⟨by decide, by decide⟩) (va_recv hC.1 hP (ci := 4) rfl (wM_obj)) hC hP hS (fun _ h => h) rfl hl.1 rfl (Nat.le_of_ble_eq_true rfl) dX4_deliver_3 ⟨Nat.le_of_ble_eq_true rfl, Nat.le_of_ble_eq_true rfl⟩ (fun H locs hP hS _ _ => ?_)
  refine k_if_ne (tgt := 13) hx hb dX4_deliver_6 (by decide) (by omega) (fun c6 => ?_) (fun c6 => ?_)
  · skip
    refine lv_aload_n hx hb dX4_deliver_13 rfl (lv_at hl 0 rfl) ?_
    refine va_get (D := g.1) (C := RX4) (T := TX4) (N := 11) (ci := 4) hx hb hu4 (fun _ h => h) hown hC.1 hP _ (wM_obj) rfl 4 (by decide) (hts (.fieldLink RX4 13 "SplicedChainModel" "failed" "[Z") (by decide +kernel)) (fun _ h9 => h9) rfl dX4_deliver_14 ?_
    refine lv_iload_n hx hb dX4_deliver_17 rfl (lv_at hl 1 rfl) ?_
    refine k_zald hx hb hC hP _ (wM_failed) (j := nd) (by omega) (by omega) dX4_deliver_18 ?_
    refine k_if_eq (tgt := 26) hx hb dX4_deliver_19 (by decide) (by omega) (fun c19 => ?_) (fun c19 => ?_)
    · skip
      refine lv_aload_n hx hb dX4_deliver_26 rfl (lv_at hl 0 rfl) ?_
      refine lv_iload_n hx hb dX4_deliver_27 rfl (lv_at hl 1 rfl) ?_
      refine kV_i (r := nI U) (w2 := wM g a s) (As := [.int (nI nd)]) (b := a 0) (rest := [.ref (a 0)]) (A1 := A) hfx (c_X4_updatesTo l hA (s := s) (hm) (nd := nd) (p := p) (U := U) hnd (hp) (hpe) (hu) (hle) (hU)) (cwV 1 hts gX4_deliver_X4_updatesTo rfl rfl rfl (by decide +kernel) ⟨by decide, by decide⟩) (va_recv hC.1 hP (ci := 4) rfl (wM_obj)) hC hP hS (fun _ h => h) rfl hl.1 rfl (Nat.le_of_ble_eq_true rfl) dX4_deliver_28 ⟨Nat.le_of_ble_eq_true rfl, Nat.le_of_ble_eq_true rfl⟩ (fun H locs hP hS _ _ => ?_)
      refine k_if_ne (tgt := 38) hx hb dX4_deliver_31 (by decide) (by omega) (fun c31 => ?_) (fun c31 => ?_)
      · exfalso; omega
      · skip
        refine k_ic (x := 3) hx hb dX4_deliver_34 (by decide) ?_
        refine lv_goto (tgt := 39) hx hb dX4_deliver_35 (by decide) ?_
        refine kV_i (r := nI 1) (w2 := wM g a (w3 s 9 0 0 3)) (As := [.int (nI 3)]) (b := a 0) (rest := []) (A1 := A) hfx (c_X4_throwsIt l (n := n) hA (s := s) (c := 3) (by decide)) (cwV 1 hts gX4_deliver_X4_throwsIt rfl rfl rfl (by decide +kernel) ⟨by decide, by decide⟩) (va_recv hC.1 hP (ci := 4) rfl (wM_obj)) hC hP hS (fun _ h => h) rfl hl.1 rfl (Nat.le_of_ble_eq_true rfl) dX4_deliver_39 ⟨Nat.le_of_ble_eq_true rfl, Nat.le_of_ble_eq_true rfl⟩ (fun H locs hP hS _ _ => ?_)
        refine k_if_eq (tgt := 47) hx hb dX4_deliver_42 (by decide) (by omega) (fun c42 => ?_) (fun c42 => ?_)
        · exfalso; omega
        · skip
          refine k_ic (x := 0) hx hb dX4_deliver_45 (by decide) ?_
          exact k_iret hx hb hr hlk (by rfl) hP hS dX4_deliver_46
    · exfalso; omega
  · exfalso; omega
set_option maxHeartbeats 4000000 in
set_option maxRecDepth 100000 in
/-- acknowledge: no node -/
theorem c_X4_acknowledge_1 (l : Launch) {g : GG} {a : Nat → Nat} {n : Nat} {A : Nat → Prop} (hA : Ap A a 8) {s : CS} (hm : Mh n s) {x : Int32} (hbad : x < 0 ∨ nI n ≤ x) : Met l yX4_acknowledge wsX4_acknowledge ({ frames := 2, cells := 0, slots := 0, locals := 45 }) (pC g [.ref (a 0), .int (x)] (wM g a s)) (qI g (nI 0) (wM g a (w3 s 9 0 0 1)) A) 0 0 A := by
  refine k_start (cc := cX4_acknowledge) (maxL := 2) (ret := (some .int)) (by decide) rfl (Nat.le_of_ble_eq_true rfl) ?_
  intro pr en s0 m args below meth cd hx hb hml hr hlk hts hown hin hC hP ls hl
  have hS : va_S A s0.heap s0.heap [] := va_S.rf
  have hfx : CallFix pr m cd cX4_acknowledge 2 s0 args wsX4_acknowledge RX4 := ⟨hx, hb, hml, hown, hts⟩
  have hu4 : ∀ w ∈ wsX40, w.before args s0 = true := fun w h => hts w ((by decide +kernel : ∀ w ∈ wsX40, w ∈ wsX4_acknowledge) w h)
  have hl : lv_has ls 2 [(0, .ref (a 0)), (1, .int (x))] := hl
  have m0 := hm.1
  have m1 := hm.2.1
  refine lv_aload_n hx hb dX4_acknowledge_0 rfl (lv_at hl 0 rfl) ?_
  refine lv_aload_n hx hb dX4_acknowledge_1 rfl (lv_at hl 0 rfl) ?_
  refine lv_iload_n hx hb dX4_acknowledge_2 rfl (lv_at hl 1 rfl) ?_
  refine kV_i (r := nI 0) (w2 := wM g a s) (As := [.int (x)]) (b := a 0) (rest := [.ref (a 0)]) (A1 := A) hfx (c_X4_isNode_no l hA (s := s) (hm) (x := x) hbad) (cwV 1 hts gX4_acknowledge_X4_isNode rfl rfl rfl (by decide +kernel) ⟨by decide, by decide⟩) (va_recv hC.1 hP (ci := 4) rfl (wM_obj)) hC hP hS (fun _ h => h) rfl hl.1 rfl (Nat.le_of_ble_eq_true rfl) dX4_acknowledge_3 ⟨Nat.le_of_ble_eq_true rfl, Nat.le_of_ble_eq_true rfl⟩ (fun H locs hP hS _ _ => ?_)
  refine k_if_ne (tgt := 13) hx hb dX4_acknowledge_6 (by decide) (by omega) (fun c6 => ?_) (fun c6 => ?_)
  · exfalso; omega
  · skip
    refine k_ic (x := 1) hx hb dX4_acknowledge_9 (by decide) ?_
    refine lv_goto (tgt := 39) hx hb dX4_acknowledge_10 (by decide) ?_
    refine kV_i (r := nI 1) (w2 := wM g a (w3 s 9 0 0 1)) (As := [.int (nI 1)]) (b := a 0) (rest := []) (A1 := A) hfx (c_X4_throwsIt l (n := n) hA (s := s) (c := 1) (by decide)) (cwV 1 hts gX4_acknowledge_X4_throwsIt rfl rfl rfl (by decide +kernel) ⟨by decide, by decide⟩) (va_recv hC.1 hP (ci := 4) rfl (wM_obj)) hC hP hS (fun _ h => h) rfl hl.1 rfl (Nat.le_of_ble_eq_true rfl) dX4_acknowledge_39 ⟨Nat.le_of_ble_eq_true rfl, Nat.le_of_ble_eq_true rfl⟩ (fun H locs hP hS _ _ => ?_)
    refine k_if_eq (tgt := 47) hx hb dX4_acknowledge_42 (by decide) (by omega) (fun c42 => ?_) (fun c42 => ?_)
    · exfalso; omega
    · skip
      refine k_ic (x := 0) hx hb dX4_acknowledge_45 (by decide) ?_
      exact k_iret hx hb hr hlk (by rfl) hP hS dX4_acknowledge_46
set_option maxHeartbeats 4000000 in
set_option maxRecDepth 100000 in
/-- acknowledge: failed -/
theorem c_X4_acknowledge_2 (l : Launch) {g : GG} {a : Nat → Nat} {n : Nat} {A : Nat → Prop} (hA : Ap A a 8) {s : CS} (hm : Mh n s) {nd : Nat} (hnd : nd < n) (hfl : s 2 0 nd ≠ 0) : Met l yX4_acknowledge wsX4_acknowledge ({ frames := 2, cells := 0, slots := 0, locals := 45 }) (pC g [.ref (a 0), .int (nI nd)] (wM g a s)) (qI g (nI 0) (wM g a (w3 s 9 0 0 2)) A) 0 0 A := by
  refine k_start (cc := cX4_acknowledge) (maxL := 2) (ret := (some .int)) (by decide) rfl (Nat.le_of_ble_eq_true rfl) ?_
  intro pr en s0 m args below meth cd hx hb hml hr hlk hts hown hin hC hP ls hl
  have hS : va_S A s0.heap s0.heap [] := va_S.rf
  have hfx : CallFix pr m cd cX4_acknowledge 2 s0 args wsX4_acknowledge RX4 := ⟨hx, hb, hml, hown, hts⟩
  have hu4 : ∀ w ∈ wsX40, w.before args s0 = true := fun w h => hts w ((by decide +kernel : ∀ w ∈ wsX40, w ∈ wsX4_acknowledge) w h)
  have hl : lv_has ls 2 [(0, .ref (a 0)), (1, .int (nI nd))] := hl
  have m0 := hm.1
  have m1 := hm.2.1
  have f2 := hm.nd nd (by omega)
  refine lv_aload_n hx hb dX4_acknowledge_0 rfl (lv_at hl 0 rfl) ?_
  refine lv_aload_n hx hb dX4_acknowledge_1 rfl (lv_at hl 0 rfl) ?_
  refine lv_iload_n hx hb dX4_acknowledge_2 rfl (lv_at hl 1 rfl) ?_
  refine kV_i (r := nI 1) (w2 := wM g a s) (As := [.int (nI nd)]) (b := a 0) (rest := [.ref (a 0)]) (A1 := A) hfx (c_X4_isNode l hA (s := s) (hm) (j := nd) (by omega)) (cwV 1 hts gX4_acknowledge_X4_isNode rfl rfl rfl (by decide +kernel) ⟨by decide, by decide⟩) (va_recv hC.1 hP (ci := 4) rfl (wM_obj)) hC hP hS (fun _ h => h) rfl hl.1 rfl (Nat.le_of_ble_eq_true rfl) dX4_acknowledge_3 ⟨Nat.le_of_ble_eq_true rfl, Nat.le_of_ble_eq_true rfl⟩ (fun H locs hP hS _ _ => ?_)
  refine k_if_ne (tgt := 13) hx hb dX4_acknowledge_6 (by decide) (by omega) (fun c6 => ?_) (fun c6 => ?_)
  · skip
    refine lv_aload_n hx hb dX4_acknowledge_13 rfl (lv_at hl 0 rfl) ?_
    refine va_get (D := g.1) (C := RX4) (T := TX4) (N := 11) (ci := 4) hx hb hu4 (fun _ h => h) hown hC.1 hP _ (wM_obj) rfl 4 (by decide) (hts (.fieldLink RX4 13 "SplicedChainModel" "failed" "[Z") (by decide +kernel)) (fun _ h9 => h9) rfl dX4_acknowledge_14 ?_
    refine lv_iload_n hx hb dX4_acknowledge_17 rfl (lv_at hl 1 rfl) ?_
    refine k_zald hx hb hC hP _ (wM_failed) (j := nd) (by omega) (by omega) dX4_acknowledge_18 ?_
    refine k_if_eq (tgt := 26) hx hb dX4_acknowledge_19 (by decide) (by omega) (fun c19 => ?_) (fun c19 => ?_)
    · exfalso; omega
    · skip
      refine k_ic (x := 2) hx hb dX4_acknowledge_22 (by decide) ?_
      refine lv_goto (tgt := 39) hx hb dX4_acknowledge_23 (by decide) ?_
      refine kV_i (r := nI 1) (w2 := wM g a (w3 s 9 0 0 2)) (As := [.int (nI 2)]) (b := a 0) (rest := []) (A1 := A) hfx (c_X4_throwsIt l (n := n) hA (s := s) (c := 2) (by decide)) (cwV 1 hts gX4_acknowledge_X4_throwsIt rfl rfl rfl (by decide +kernel) ⟨by decide, by decide⟩) (va_recv hC.1 hP (ci := 4) rfl (wM_obj)) hC hP hS (fun _ h => h) rfl hl.1 rfl (Nat.le_of_ble_eq_true rfl) dX4_acknowledge_39 ⟨Nat.le_of_ble_eq_true rfl, Nat.le_of_ble_eq_true rfl⟩ (fun H locs hP hS _ _ => ?_)
      refine k_if_eq (tgt := 47) hx hb dX4_acknowledge_42 (by decide) (by omega) (fun c42 => ?_) (fun c42 => ?_)
      · exfalso; omega
      · skip
        refine k_ic (x := 0) hx hb dX4_acknowledge_45 (by decide) ?_
        exact k_iret hx hb hr hlk (by rfl) hP hS dX4_acknowledge_46
  · exfalso; omega
set_option maxHeartbeats 4000000 in
set_option maxRecDepth 100000 in
/-- acknowledge: nothing there -/
theorem c_X4_acknowledge_3 (l : Launch) {g : GG} {a : Nat → Nat} {n : Nat} {A : Nat → Prop} (hA : Ap A a 8) {s : CS} (hm : Mh n s) {p nd V : Nat} (hnd : nd < n) (hp : p < s 1 0 0) (hpe : s 0 0 p = nd) (hu : ∀ k, k < s 1 0 0 → k ≠ p → s 0 0 k ≠ nd) (hfl : s 2 0 nd = 0) (hla : p + 1 < s 1 0 0 → s 5 0 nd ≤ s 5 0 (s 0 0 (p + 1))) (hV : (if p + 1 < s 1 0 0 ∧ s 3 0 nd ≠ 0 then s 5 0 (s 0 0 (p + 1)) - s 5 0 nd else 0) = V) (h0 : V = 0) : Met l yX4_acknowledge wsX4_acknowledge ({ frames := 2, cells := 0, slots := 0, locals := 45 }) (pC g [.ref (a 0), .int (nI nd)] (wM g a s)) (qI g (nI 0) (wM g a (w3 s 9 0 0 3)) A) 0 0 A := by
  refine k_start (cc := cX4_acknowledge) (maxL := 2) (ret := (some .int)) (by decide) rfl (Nat.le_of_ble_eq_true rfl) ?_
  intro pr en s0 m args below meth cd hx hb hml hr hlk hts hown hin hC hP ls hl
  have hS : va_S A s0.heap s0.heap [] := va_S.rf
  have hfx : CallFix pr m cd cX4_acknowledge 2 s0 args wsX4_acknowledge RX4 := ⟨hx, hb, hml, hown, hts⟩
  have hu4 : ∀ w ∈ wsX40, w.before args s0 = true := fun w h => hts w ((by decide +kernel : ∀ w ∈ wsX40, w ∈ wsX4_acknowledge) w h)
  have hl : lv_has ls 2 [(0, .ref (a 0)), (1, .int (nI nd))] := hl
  have m0 := hm.1
  have m1 := hm.2.1
  refine lv_aload_n hx hb dX4_acknowledge_0 rfl (lv_at hl 0 rfl) ?_
  refine lv_aload_n hx hb dX4_acknowledge_1 rfl (lv_at hl 0 rfl) ?_
  refine lv_iload_n hx hb dX4_acknowledge_2 rfl (lv_at hl 1 rfl) ?_
  refine kV_i (r := nI 1) (w2 := wM g a s) (As := [.int (nI nd)]) (b := a 0) (rest := [.ref (a 0)]) (A1 := A) hfx (c_X4_isNode l hA (s := s) (hm) (j := nd) (by omega)) (cwV 1 hts gX4_acknowledge_X4_isNode rfl rfl rfl (by decide +kernel) ⟨by decide, by decide⟩) (va_recv hC.1 hP (ci := 4) rfl (wM_obj)) hC hP hS (fun _ h => h) rfl hl.1 rfl (Nat.le_of_ble_eq_true rfl) dX4_acknowledge_3 ⟨Nat.le_of_ble_eq_true rfl, Nat.le_of_ble_eq_true rfl⟩ (fun H locs hP hS _ _ => ?_)
  refine k_if_ne (tgt := 13) hx hb dX4_acknowledge_6 (by decide) (by omega) (fun c6 => ?_) (fun c6 => ?_)
  · skip
    refine lv_aload_n hx hb dX4_acknowledge_13 rfl (lv_at hl 0 rfl) ?_
    refine va_get (D := g.1) (C := RX4) (T := TX4) (N := 11) (ci := 4) hx hb hu4 (fun _ h => h) hown hC.1 hP _ (wM_obj) rfl 4 (by decide) (hts (.fieldLink RX4 13 "SplicedChainModel" "failed" "[Z") (by decide +kernel)) (fun _ h9 => h9) rfl dX4_acknowledge_14 ?_
    refine lv_iload_n hx hb dX4_acknowledge_17 rfl (lv_at hl 1 rfl) ?_
    refine k_zald hx hb hC hP _ (wM_failed) (j := nd) (by omega) (by omega) dX4_acknowledge_18 ?_
    refine k_if_eq (tgt := 26) hx hb dX4_acknowledge_19 (by decide) (by omega) (fun c19 => ?_) (fun c19 => ?_)
    · skip
      refine lv_aload_n hx hb dX4_acknowledge_26 rfl (lv_at hl 0 rfl) ?_
      refine lv_iload_n hx hb dX4_acknowledge_27 rfl (lv_at hl 1 rfl) ?_
      refine kV_i (r := nI V) (w2 := wM g a s) (As := [.int (nI nd)]) (b := a 0) (rest := [.ref (a 0)]) (A1 := A) hfx (c_X4_acksTo l hA (s := s) (hm) (nd := nd) (p := p) (V := V) hnd (hp) (hpe) (hu) (hla) (hV)) (cwV 1 hts gX4_acknowledge_X4_acksTo rfl rfl rfl (by decide +kernel) ⟨by decide, by decide⟩) (va_recv hC.1 hP (ci := 4) rfl (wM_obj)) hC hP hS (fun _ h => h) rfl hl.1 rfl (Nat.le_of_ble_eq_true rfl) dX4_acknowledge_28 ⟨Nat.le_of_ble_eq_true rfl, Nat.le_of_ble_eq_true rfl⟩ (fun H locs hP hS _ _ => ?_)
      refine k_if_ne (tgt := 38) hx hb dX4_acknowledge_31 (by decide) (by omega) (fun c31 => ?_) (fun c31 => ?_)
      · exfalso; omega
      · skip
        refine k_ic (x := 3) hx hb dX4_acknowledge_34 (by decide) ?_
        refine lv_goto (tgt := 39) hx hb dX4_acknowledge_35 (by decide) ?_
        refine kV_i (r := nI 1) (w2 := wM g a (w3 s 9 0 0 3)) (As := [.int (nI 3)]) (b := a 0) (rest := []) (A1 := A) hfx (c_X4_throwsIt l (n := n) hA (s := s) (c := 3) (by decide)) (cwV 1 hts gX4_acknowledge_X4_throwsIt rfl rfl rfl (by decide +kernel) ⟨by decide, by decide⟩) (va_recv hC.1 hP (ci := 4) rfl (wM_obj)) hC hP hS (fun _ h => h) rfl hl.1 rfl (Nat.le_of_ble_eq_true rfl) dX4_acknowledge_39 ⟨Nat.le_of_ble_eq_true rfl, Nat.le_of_ble_eq_true rfl⟩ (fun H locs hP hS _ _ => ?_)
        refine k_if_eq (tgt := 47) hx hb dX4_acknowledge_42 (by decide) (by omega) (fun c42 => ?_) (fun c42 => ?_)
        · exfalso; omega
        · skip
          refine k_ic (x := 0) hx hb dX4_acknowledge_45 (by decide) ?_
          exact k_iret hx hb hr hlk (by rfl) hP hS dX4_acknowledge_46
    · exfalso; omega
  · exfalso; omega
set_option maxHeartbeats 4000000 in
set_option maxRecDepth 100000 in
/-- deliver -/
theorem c_X4_deliver (l : Launch) {g : GG} {a : Nat → Nat} {n : Nat} {A : Nat → Prop} (hA : Ap A a 8) {s : CS} (hm : Mh n s) {p nd U : Nat} (hnd : nd < n) (hp : p < s 1 0 0) (hpe : s 0 0 p = nd) (hu : ∀ k, k < s 1 0 0 → k ≠ p → s 0 0 k ≠ nd) (hfl : s 2 0 nd = 0) (hle : 0 < p → s 4 0 nd ≤ s 4 0 (s 0 0 (p - 1))) (hU : (if 0 < p ∧ s 3 0 (s 0 0 (p - 1)) ≠ 0 then s 4 0 (s 0 0 (p - 1)) - s 4 0 nd else 0) = U) (h0 : 0 < U) : Met l yX4_deliver wsX4_deliver ({ frames := 2, cells := 0, slots := 0, locals := 45 }) (pC g [.ref (a 0), .int (nI nd)] (wM g a s)) (qI g (nI (s 4 0 nd + 1)) (wM g a (apM (w3 s 9 0 0 0) nd (s 6 0 (41 * s 0 0 (p - 1) + s 4 0 nd + 1)) (s 7 0 (41 * s 0 0 (p - 1) + s 4 0 nd + 1)))) A) 0 0 A := by
  refine k_start (cc := cX4_deliver) (maxL := 4) (ret := (some .int)) (by decide) rfl (Nat.le_of_ble_eq_true rfl) ?_
  intro pr en s0 m args below meth cd hx hb hml hr hlk hts hown hin hC hP ls hl
  have hS : va_S A s0.heap s0.heap [] := va_S.rf
  have hfx : CallFix pr m cd cX4_deliver 4 s0 args wsX4_deliver RX4 := ⟨hx, hb, hml, hown, hts⟩
  have hu4 : ∀ w ∈ wsX40, w.before args s0 = true := fun w h => hts w ((by decide +kernel : ∀ w ∈ wsX40, w ∈ wsX4_deliver) w h)
  have hl : lv_has ls 4 [(0, .ref (a 0)), (1, .int (nI nd))] := hl
  have m0 := hm.1
  have m1 := hm.2.1
  have f1 := hm.ch (p - 1) (by omega)
  have f2 := hm.nd _ f1
  have fU : 0 < p ∧ s 3 0 (s 0 0 (p - 1)) ≠ 0 := Decidable.byContradiction fun q => by rw [if_neg q] at hU; omega
  have fU2 : s 4 0 (s 0 0 (p - 1)) - s 4 0 nd = U := by rw [if_pos fU] at hU; exact hU
  refine lv_aload_n hx hb dX4_deliver_0 rfl (lv_at hl 0 rfl) ?_
  refine lv_aload_n hx hb dX4_deliver_1 rfl (lv_at hl 0 rfl) ?_
  refine lv_iload_n hx hb dX4_deliver_2 rfl (lv_at hl 1 rfl) ?_
  refine kV_i (r := nI 1) (w2 := wM g a s) (As := [.int (nI nd)]) (b := a 0) (rest := [.ref (a 0)]) (A1 := A) hfx (c_X4_isNode l hA (s := s) (hm) (j := nd) (by omega)) (cwV 1 hts gX4_deliver_X4_isNode rfl rfl rfl (by decide +kernel) ⟨by decide, by decide⟩) (va_recv hC.1 hP (ci := 4) rfl (wM_obj)) hC hP hS (fun _ h => h) rfl hl.1 rfl (Nat.le_of_ble_eq_true rfl) dX4_deliver_3 ⟨Nat.le_of_ble_eq_true rfl, Nat.le_of_ble_eq_true rfl⟩ (fun H locs hP hS _ _ => ?_)
  refine k_if_ne (tgt := 13) hx hb dX4_deliver_6 (by decide) (by omega) (fun c6 => ?_) (fun c6 => ?_)
  · skip
    refine lv_aload_n hx hb dX4_deliver_13 rfl (lv_at hl 0 rfl) ?_
    refine va_get (D := g.1) (C := RX4) (T := TX4) (N := 11) (ci := 4) hx hb hu4 (fun _ h => h) hown hC.1 hP _ (wM_obj) rfl 4 (by decide) (hts (.fieldLink RX4 13 "SplicedChainModel" "failed" "[Z") (by decide +kernel)) (fun _ h9 => h9) rfl dX4_deliver_14 ?_
    refine lv_iload_n hx hb dX4_deliver_17 rfl (lv_at hl 1 rfl) ?_
    refine k_zald hx hb hC hP _ (wM_failed) (j := nd) (by omega) (by omega) dX4_deliver_18 ?_
    refine k_if_eq (tgt := 26) hx hb dX4_deliver_19 (by decide) (by omega) (fun c19 => ?_) (fun c19 => ?_)
    · skip
      refine lv_aload_n hx hb dX4_deliver_26 rfl (lv_at hl 0 rfl) ?_
      refine lv_iload_n hx hb dX4_deliver_27 rfl (lv_at hl 1 rfl) ?_
      refine kV_i (r := nI U) (w2 := wM g a s) (As := [.int (nI nd)]) (b := a 0) (rest := [.ref (a 0)]) (A1 := A) hfx (c_X4_updatesTo l hA (s := s) (hm) (nd := nd) (p := p) (U := U) hnd (hp) (hpe) (hu) (hle) (hU)) (cwV 1 hts gX4_deliver_X4_updatesTo rfl rfl rfl (by decide +kernel) ⟨by decide, by decide⟩) (va_recv hC.1 hP (ci := 4) rfl (wM_obj)) hC hP hS (fun _ h => h) rfl hl.1 rfl (Nat.le_of_ble_eq_true rfl) dX4_deliver_28 ⟨Nat.le_of_ble_eq_true rfl, Nat.le_of_ble_eq_true rfl⟩ (fun H locs hP hS _ _ => ?_)
      have fU3 : U ≤ 40 := by omega
      refine k_if_ne (tgt := 38) hx hb dX4_deliver_31 (by decide) (by omega) (fun c31 => ?_) (fun c31 => ?_)
      · skip
        refine k_ic (x := 0) hx hb dX4_deliver_38 (by decide) ?_
        refine kV_i (r := nI 0) (w2 := wM g a (w3 s 9 0 0 0)) (As := [.int (nI 0)]) (b := a 0) (rest := []) (A1 := A) hfx (c_X4_throwsIt_0 l (n := n) hA (s := s)) (cwV 1 hts gX4_deliver_X4_throwsIt rfl rfl rfl (by decide +kernel) ⟨by decide, by decide⟩) (va_recv hC.1 hP (ci := 4) rfl (wM_obj)) hC hP hS (fun _ h => h) rfl hl.1 rfl (Nat.le_of_ble_eq_true rfl) dX4_deliver_39 ⟨Nat.le_of_ble_eq_true rfl, Nat.le_of_ble_eq_true rfl⟩ (fun H locs hP hS _ _ => ?_)
        refine k_if_eq (tgt := 47) hx hb dX4_deliver_42 (by decide) (by omega) (fun c42 => ?_) (fun c42 => ?_)
        · skip
          refine lv_aload_n hx hb dX4_deliver_47 rfl (lv_at hl 0 rfl) ?_
          refine lv_iload_n hx hb dX4_deliver_48 rfl (lv_at hl 1 rfl) ?_
          refine kV_i (r := nI p) (w2 := wM g a (w3 s 9 0 0 0)) (As := [.int (nI nd)]) (b := a 0) (rest := []) (A1 := A) hfx (c_X4_placeOf l hA (s := (w3 s 9 0 0 0)) (hm.m9) (nd := nd) (p := p) (by omega) (by simp [w3]; exact hp) (by simp [w3]; exact hpe) (fun k hk hne => by simp [w3] at hk ⊢; exact hu k hk hne)) (cwV 1 hts gX4_deliver_X4_placeOf rfl rfl rfl (by decide +kernel) ⟨by decide, by decide⟩) (va_recv hC.1 hP (ci := 4) rfl (wM_obj)) hC hP hS (fun _ h => h) rfl hl.1 rfl (Nat.le_of_ble_eq_true rfl) dX4_deliver_49 ⟨Nat.le_of_ble_eq_true rfl, Nat.le_of_ble_eq_true rfl⟩ (fun H locs hP hS _ _ => ?_)
          refine lv_istore_n (lv' := [(2, .int (nI p)), (0, .ref (a 0)), (1, .int (nI nd))]) hx hb dX4_deliver_52 rfl hl (by decide) rfl (fun ls hl => ?_)
          refine k_bi (x := 41) hx hb dX4_deliver_53 (by decide) ?_
          refine lv_aload_n hx hb dX4_deliver_55 rfl (lv_at hl 1 rfl) ?_
          refine va_get (D := g.1) (C := RX4) (T := TX4) (N := 11) (ci := 4) hx hb hu4 (fun _ h => h) hown hC.1 hP _ (wM_obj) rfl 3 (by decide) (hts (.fieldLink RX4 7 "SplicedChainModel" "chain" "[I") (by decide +kernel)) (fun _ h9 => h9) rfl dX4_deliver_56 ?_
          refine lv_iload_n hx hb dX4_deliver_59 rfl (lv_at hl 0 rfl) ?_
          refine k_ic (x := 1) hx hb dX4_deliver_60 (by decide) ?_
          refine k_isub (x := p) (y := 1) hx hb (by omega) dX4_deliver_61 ?_
          refine k_iald hx hb hC hP _ (wM_chain) (j := p - 1) (by omega) (by omega) dX4_deliver_62 ?_
          refine k_as (x := s 0 0 (p - 1)) (by simp [w3]) ?_
          refine k_imul (x := 41) (y := s 0 0 (p - 1)) hx hb dX4_deliver_63 ?_
          refine lv_aload_n hx hb dX4_deliver_64 rfl (lv_at hl 1 rfl) ?_
          refine va_get (D := g.1) (C := RX4) (T := TX4) (N := 11) (ci := 4) hx hb hu4 (fun _ h => h) hown hC.1 hP _ (wM_obj) rfl 6 (by decide) (hts (.fieldLink RX4 20 "SplicedChainModel" "history" "[I") (by decide +kernel)) (fun _ h9 => h9) rfl dX4_deliver_65 ?_
          refine lv_iload_n hx hb dX4_deliver_68 rfl (lv_at hl 2 rfl) ?_
          refine k_iald hx hb hC hP _ (wM_history) (j := nd) (by omega) (by omega) dX4_deliver_69 ?_
          refine k_as (x := s 4 0 nd) (by simp [w3]) ?_
          refine k_iadd (x := 41 * (s 0 0 (p - 1))) (y := s 4 0 nd) hx hb dX4_deliver_70 ?_
          refine k_ic (x := 1) hx hb dX4_deliver_71 (by decide) ?_
          refine k_iadd (x := (41 * (s 0 0 (p - 1))) + (s 4 0 nd)) (y := 1) hx hb dX4_deliver_72 ?_
          refine lv_istore_n (lv' := [(3, .int (nI (((41 * (s 0 0 (p - 1))) + (s 4 0 nd)) + 1))), (2, .int (nI p)), (0, .ref (a 0)), (1, .int (nI nd))]) hx hb dX4_deliver_73 rfl hl (by decide) rfl (fun ls hl => ?_)
          refine lv_aload_n hx hb dX4_deliver_74 rfl (lv_at hl 2 rfl) ?_
          refine lv_iload_n hx hb dX4_deliver_75 rfl (lv_at hl 3 rfl) ?_
          refine lv_aload_n hx hb dX4_deliver_76 rfl (lv_at hl 2 rfl) ?_
          refine va_get (D := g.1) (C := RX4) (T := TX4) (N := 11) (ci := 4) hx hb hu4 (fun _ h => h) hown hC.1 hP _ (wM_obj) rfl 8 (by decide) (hts (.fieldLink RX4 26 "SplicedChainModel" "keys" "[I") (by decide +kernel)) (fun _ h9 => h9) rfl dX4_deliver_77 ?_
          refine lv_iload_n hx hb dX4_deliver_80 rfl (lv_at hl 0 rfl) ?_
          refine k_iald hx hb hC hP _ (wM_keys) (j := ((41 * (s 0 0 (p - 1))) + (s 4 0 nd)) + 1) (by omega) (by omega) dX4_deliver_81 ?_
          refine k_as (x := s 6 0 (((41 * (s 0 0 (p - 1))) + (s 4 0 nd)) + 1)) (by simp [w3]) ?_
          refine lv_aload_n hx hb dX4_deliver_82 rfl (lv_at hl 2 rfl) ?_
          refine va_get (D := g.1) (C := RX4) (T := TX4) (N := 11) (ci := 4) hx hb hu4 (fun _ h => h) hown hC.1 hP _ (wM_obj) rfl 9 (by decide) (hts (.fieldLink RX4 29 "SplicedChainModel" "values" "[I") (by decide +kernel)) (fun _ h9 => h9) rfl dX4_deliver_83 ?_
          refine lv_iload_n hx hb dX4_deliver_86 rfl (lv_at hl 0 rfl) ?_
          refine k_iald hx hb hC hP _ (wM_values) (j := ((41 * (s 0 0 (p - 1))) + (s 4 0 nd)) + 1) (by omega) (by omega) dX4_deliver_87 ?_
          refine k_as (x := s 7 0 (((41 * (s 0 0 (p - 1))) + (s 4 0 nd)) + 1)) (by simp [w3]) ?_
          refine kV_v (w2 := wM g a (apM (w3 s 9 0 0 0) nd (s 6 0 (((41 * (s 0 0 (p - 1))) + (s 4 0 nd)) + 1)) (s 7 0 (((41 * (s 0 0 (p - 1))) + (s 4 0 nd)) + 1)))) (As := [.int (nI nd), .int (nI (s 6 0 (((41 * (s 0 0 (p - 1))) + (s 4 0 nd)) + 1))), .int (nI (s 7 0 (((41 * (s 0 0 (p - 1))) + (s 4 0 nd)) + 1)))]) (b := a 0) (rest := []) (A1 := A) hfx (c_X4_apply l hA (s := (w3 s 9 0 0 0)) (hm.m9) (nd := nd) (k := s 6 0 (((41 * (s 0 0 (p - 1))) + (s 4 0 nd)) + 1)) (v := s 7 0 (((41 * (s 0 0 (p - 1))) + (s 4 0 nd)) + 1)) (by omega) (by simp [w3]; omega)) (cwV 3 hts gX4_deliver_X4_apply rfl rfl rfl (by decide +kernel) ⟨by decide, by decide⟩) (va_recv hC.1 hP (ci := 4) rfl (wM_obj)) hC hP hS (fun _ h => h) rfl hl.1 rfl (Nat.le_of_ble_eq_true rfl) dX4_deliver_88 ⟨Nat.le_of_ble_eq_true rfl, Nat.le_of_ble_eq_true rfl⟩ (fun H locs hP hS _ _ => ?_)
          refine lv_aload_n hx hb dX4_deliver_91 rfl (lv_at hl 2 rfl) ?_
          refine va_get (D := g.1) (C := RX4) (T := TX4) (N := 11) (ci := 4) hx hb hu4 (fun _ h => h) hown hC.1 hP _ (wM_obj) rfl 6 (by decide) (hts (.fieldLink RX4 20 "SplicedChainModel" "history" "[I") (by decide +kernel)) (fun _ h9 => h9) rfl dX4_deliver_92 ?_
          refine lv_iload_n hx hb dX4_deliver_95 rfl (lv_at hl 3 rfl) ?_
          refine k_iald hx hb hC hP _ (wM_history) (j := nd) (by omega) (by omega) dX4_deliver_96 ?_
          refine k_as (x := s 4 0 nd + 1) (by rw [apM_h]; simp [w3]) ?_
          exact k_iret hx hb hr hlk (by rfl) hP hS dX4_deliver_97
        · exfalso; omega
      · exfalso; omega
    · exfalso; omega
  · exfalso; omega
set_option maxHeartbeats 4000000 in
set_option maxRecDepth 100000 in
/-- acknowledge -/
theorem c_X4_acknowledge (l : Launch) {g : GG} {a : Nat → Nat} {n : Nat} {A : Nat → Prop} (hA : Ap A a 8) {s : CS} (hm : Mh n s) {p nd V : Nat} (hnd : nd < n) (hp : p < s 1 0 0) (hpe : s 0 0 p = nd) (hu : ∀ k, k < s 1 0 0 → k ≠ p → s 0 0 k ≠ nd) (hfl : s 2 0 nd = 0) (hla : p + 1 < s 1 0 0 → s 5 0 nd ≤ s 5 0 (s 0 0 (p + 1))) (hV : (if p + 1 < s 1 0 0 ∧ s 3 0 nd ≠ 0 then s 5 0 (s 0 0 (p + 1)) - s 5 0 nd else 0) = V) (h0 : 0 < V) : Met l yX4_acknowledge wsX4_acknowledge ({ frames := 2, cells := 0, slots := 0, locals := 45 }) (pC g [.ref (a 0), .int (nI nd)] (wM g a s)) (qI g (nI (s 5 0 nd + 1)) (wM g a (w3 (w3 s 9 0 0 0) 5 0 nd (s 5 0 nd + 1))) A) 0 0 A := by
  refine k_start (cc := cX4_acknowledge) (maxL := 2) (ret := (some .int)) (by decide) rfl (Nat.le_of_ble_eq_true rfl) ?_
  intro pr en s0 m args below meth cd hx hb hml hr hlk hts hown hin hC hP ls hl
  have hS : va_S A s0.heap s0.heap [] := va_S.rf
  have hfx : CallFix pr m cd cX4_acknowledge 2 s0 args wsX4_acknowledge RX4 := ⟨hx, hb, hml, hown, hts⟩
  have hu4 : ∀ w ∈ wsX40, w.before args s0 = true := fun w h => hts w ((by decide +kernel : ∀ w ∈ wsX40, w ∈ wsX4_acknowledge) w h)
  have hl : lv_has ls 2 [(0, .ref (a 0)), (1, .int (nI nd))] := hl
  have m0 := hm.1
  have m1 := hm.2.1
  have fV : p + 1 < s 1 0 0 ∧ s 3 0 nd ≠ 0 := Decidable.byContradiction fun q => by rw [if_neg q] at hV; omega
  have fV2 : s 5 0 (s 0 0 (p + 1)) - s 5 0 nd = V := by rw [if_pos fV] at hV; exact hV
  have f1 := hm.ch (p + 1) (by omega)
  have f2 := hm.nd _ f1
  refine lv_aload_n hx hb dX4_acknowledge_0 rfl (lv_at hl 0 rfl) ?_
  refine lv_aload_n hx hb dX4_acknowledge_1 rfl (lv_at hl 0 rfl) ?_
  refine lv_iload_n hx hb dX4_acknowledge_2 rfl (lv_at hl 1 rfl) ?_
  refine kV_i (r := nI 1) (w2 := wM g a s) (As := [.int (nI nd)]) (b := a 0) (rest := [.ref (a 0)]) (A1 := A) hfx (c_X4_isNode l hA (s := s) (hm) (j := nd) (by omega)) (cwV 1 hts gX4_acknowledge_X4_isNode rfl rfl rfl (by decide +kernel) ⟨by decide, by decide⟩) (va_recv hC.1 hP (ci := 4) rfl (wM_obj)) hC hP hS (fun _ h => h) rfl hl.1 rfl (Nat.le_of_ble_eq_true rfl) dX4_acknowledge_3 ⟨Nat.le_of_ble_eq_true rfl, Nat.le_of_ble_eq_true rfl⟩ (fun H locs hP hS _ _ => ?_)
  refine k_if_ne (tgt := 13) hx hb dX4_acknowledge_6 (by decide) (by omega) (fun c6 => ?_) (fun c6 => ?_)
  · skip
    refine lv_aload_n hx hb dX4_acknowledge_13 rfl (lv_at hl 0 rfl) ?_
    refine va_get (D := g.1) (C := RX4) (T := TX4) (N := 11) (ci := 4) hx hb hu4 (fun _ h => h) hown hC.1 hP _ (wM_obj) rfl 4 (by decide) (hts (.fieldLink RX4 13 "SplicedChainModel" "failed" "[Z") (by decide +kernel)) (fun _ h9 => h9) rfl dX4_acknowledge_14 ?_
    refine lv_iload_n hx hb dX4_acknowledge_17 rfl (lv_at hl 1 rfl) ?_
    refine k_zald hx hb hC hP _ (wM_failed) (j := nd) (by omega) (by omega) dX4_acknowledge_18 ?_
    refine k_if_eq (tgt := 26) hx hb dX4_acknowledge_19 (by decide) (by omega) (fun c19 => ?_) (fun c19 => ?_)
    · skip
      refine lv_aload_n hx hb dX4_acknowledge_26 rfl (lv_at hl 0 rfl) ?_
      refine lv_iload_n hx hb dX4_acknowledge_27 rfl (lv_at hl 1 rfl) ?_
      refine kV_i (r := nI V) (w2 := wM g a s) (As := [.int (nI nd)]) (b := a 0) (rest := [.ref (a 0)]) (A1 := A) hfx (c_X4_acksTo l hA (s := s) (hm) (nd := nd) (p := p) (V := V) hnd (hp) (hpe) (hu) (hla) (hV)) (cwV 1 hts gX4_acknowledge_X4_acksTo rfl rfl rfl (by decide +kernel) ⟨by decide, by decide⟩) (va_recv hC.1 hP (ci := 4) rfl (wM_obj)) hC hP hS (fun _ h => h) rfl hl.1 rfl (Nat.le_of_ble_eq_true rfl) dX4_acknowledge_28 ⟨Nat.le_of_ble_eq_true rfl, Nat.le_of_ble_eq_true rfl⟩ (fun H locs hP hS _ _ => ?_)
      refine k_if_ne (tgt := 38) hx hb dX4_acknowledge_31 (by decide) (by omega) (fun c31 => ?_) (fun c31 => ?_)
      · skip
        refine k_ic (x := 0) hx hb dX4_acknowledge_38 (by decide) ?_
        refine kV_i (r := nI 0) (w2 := wM g a (w3 s 9 0 0 0)) (As := [.int (nI 0)]) (b := a 0) (rest := []) (A1 := A) hfx (c_X4_throwsIt_0 l (n := n) hA (s := s)) (cwV 1 hts gX4_acknowledge_X4_throwsIt rfl rfl rfl (by decide +kernel) ⟨by decide, by decide⟩) (va_recv hC.1 hP (ci := 4) rfl (wM_obj)) hC hP hS (fun _ h => h) rfl hl.1 rfl (Nat.le_of_ble_eq_true rfl) dX4_acknowledge_39 ⟨Nat.le_of_ble_eq_true rfl, Nat.le_of_ble_eq_true rfl⟩ (fun H locs hP hS _ _ => ?_)
        refine k_if_eq (tgt := 47) hx hb dX4_acknowledge_42 (by decide) (by omega) (fun c42 => ?_) (fun c42 => ?_)
        · skip
          refine lv_aload_n hx hb dX4_acknowledge_47 rfl (lv_at hl 0 rfl) ?_
          refine va_get (D := g.1) (C := RX4) (T := TX4) (N := 11) (ci := 4) hx hb hu4 (fun _ h => h) hown hC.1 hP _ (wM_obj) rfl 7 (by decide) (hts (.fieldLink RX4 23 "SplicedChainModel" "acked" "[I") (by decide +kernel)) (fun _ h9 => h9) rfl dX4_acknowledge_48 ?_
          refine lv_iload_n hx hb dX4_acknowledge_51 rfl (lv_at hl 1 rfl) ?_
          refine lv_dup2_11 hx hb dX4_acknowledge_52 rfl rfl ?_
          refine k_iald hx hb hC hP _ (wM_acked) (j := nd) (by omega) (by omega) dX4_acknowledge_53 ?_
          refine k_as (x := s 5 0 nd) (by simp [w3]) ?_
          refine k_ic (x := 1) hx hb dX4_acknowledge_54 (by decide) ?_
          refine k_iadd (x := s 5 0 nd) (y := 1) hx hb dX4_acknowledge_55 ?_
          refine k_iast hx hb hC hP hA.M hS _ (wM_acked) (j := nd) (by omega) (by omega) dX4_acknowledge_56 wpM_acked (fun H locs hP hS => ?_)
          refine lv_aload_n hx hb dX4_acknowledge_57 rfl (lv_at hl 0 rfl) ?_
          refine va_get (D := g.1) (C := RX4) (T := TX4) (N := 11) (ci := 4) hx hb hu4 (fun _ h => h) hown hC.1 hP _ (wM_obj) rfl 7 (by decide) (hts (.fieldLink RX4 23 "SplicedChainModel" "acked" "[I") (by decide +kernel)) (fun _ h9 => h9) rfl dX4_acknowledge_58 ?_
          refine lv_iload_n hx hb dX4_acknowledge_61 rfl (lv_at hl 1 rfl) ?_
          refine k_iald hx hb hC hP _ (wM_acked) (j := nd) (by omega) (by omega) dX4_acknowledge_62 ?_
          refine k_as (x := (s 5 0 nd) + 1) (by simp [w3]) ?_
          exact k_iret hx hb hr hlk (by rfl) hP hS dX4_acknowledge_63
        · exfalso; omega
      · exfalso; omega
    · exfalso; omega
  · exfalso; omega
def cntM (s : CS) : Nat → Nat
  | 0 => 0
  | k + 1 => cntM s k + (if s 2 0 k = 0 then 1 else 0)
theorem cntM_le (s : CS) : ∀ k, cntM s k ≤ k
  | 0 => Nat.le_refl 0
  | k + 1 => by have := cntM_le s k; simp only [cntM]; split <;> omega
def failM (s : CS) (nd p : Nat) : CS := if 0 < p then w3 (w3 (w3 (w3 s 9 0 0 0) 2 0 nd 1) 3 0 nd 0) 3 0 (s 0 0 (p - 1)) 0 else w3 (w3 (w3 s 9 0 0 0) 2 0 nd 1) 3 0 nd 0
set_option maxHeartbeats 4000000 in
set_option maxRecDepth 100000 in
/-- fail: no node -/
theorem c_X4_fail_1 (l : Launch) {g : GG} {a : Nat → Nat} {n : Nat} {A : Nat → Prop} (hA : Ap A a 8) {s : CS} (hm : Mh n s) {x : Int32} (hbad : x < 0 ∨ nI n ≤ x) : Met l yX4_fail wsX4_fail ({ frames := 1, cells := 0, slots := 0, locals := 23 }) (pC g [.ref (a 0), .int (x)] (wM g a s)) (qI g (nI 0) (wM g a (w3 s 9 0 0 1)) A) 0 0 A := by
  refine k_start (cc := cX4_fail) (maxL := 4) (ret := (some .boolean)) (by decide) rfl (Nat.le_of_ble_eq_true rfl) ?_
  intro pr en s0 m args below meth cd hx hb hml hr hlk hts hown hin hC hP ls hl
  have hS : va_S A s0.heap s0.heap [] := va_S.rf
  have hfx : CallFix pr m cd cX4_fail 4 s0 args wsX4_fail RX4 := ⟨hx, hb, hml, hown, hts⟩
  have hu4 : ∀ w ∈ wsX40, w.before args s0 = true := fun w h => hts w ((by decide +kernel : ∀ w ∈ wsX40, w ∈ wsX4_fail) w h)
  have hl : lv_has ls 4 [(0, .ref (a 0)), (1, .int (x))] := hl
  have m0 := hm.1
  have m1 := hm.2.1
  refine lv_aload_n hx hb dX4_fail_0 rfl (lv_at hl 0 rfl) ?_
  refine lv_aload_n hx hb dX4_fail_1 rfl (lv_at hl 0 rfl) ?_
  refine lv_iload_n hx hb dX4_fail_2 rfl (lv_at hl 1 rfl) ?_
  refine kV_i (r := nI 0) (w2 := wM g a s) (As := [.int (x)]) (b := a 0) (rest := [.ref (a 0)]) (A1 := A) hfx (c_X4_isNode_no l hA (s := s) (hm) (x := x) hbad) (cwV 1 hts gX4_fail_X4_isNode rfl rfl rfl (by decide +kernel) ⟨by decide, by decide⟩) (va_recv hC.1 hP (ci := 4) rfl (wM_obj)) hC hP hS (fun _ h => h) rfl hl.1 rfl (Nat.le_of_ble_eq_true rfl) dX4_fail_3 ⟨Nat.le_of_ble_eq_true rfl, Nat.le_of_ble_eq_true rfl⟩ (fun H locs hP hS _ _ => ?_)
  refine k_if_eq (tgt := 13) hx hb dX4_fail_6 (by decide) (by omega) (fun c6 => ?_) (fun c6 => ?_)
  · skip
    refine k_ic (x := 1) hx hb dX4_fail_13 (by decide) ?_
    refine kV_i (r := nI 1) (w2 := wM g a (w3 s 9 0 0 1)) (As := [.int (nI 1)]) (b := a 0) (rest := []) (A1 := A) hfx (c_X4_throwsIt l (n := n) hA (s := s) (c := 1) (by decide)) (cwV 1 hts gX4_fail_X4_throwsIt rfl rfl rfl (by decide +kernel) ⟨by decide, by decide⟩) (va_recv hC.1 hP (ci := 4) rfl (wM_obj)) hC hP hS (fun _ h => h) rfl hl.1 rfl (Nat.le_of_ble_eq_true rfl) dX4_fail_14 ⟨Nat.le_of_ble_eq_true rfl, Nat.le_of_ble_eq_true rfl⟩ (fun H locs hP hS _ _ => ?_)
    refine k_if_eq (tgt := 22) hx hb dX4_fail_17 (by decide) (by omega) (fun c17 => ?_) (fun c17 => ?_)
    · exfalso; omega
    · skip
      refine k_ic (x := 0) hx hb dX4_fail_20 (by decide) ?_
      exact k_zret hx hb hr hlk (by rfl) (by decide) hP hS dX4_fail_21
  · exfalso; omega
set_option maxHeartbeats 4000000 in
set_option maxRecDepth 100000 in
/-- fail -/
theorem c_X4_fail_no (l : Launch) {g : GG} {a : Nat → Nat} {n : Nat} {A : Nat → Prop} (hA : Ap A a 8) {s : CS} (hm : Mh n s) {nd : Nat} (hnd : nd < n) (hno : s 2 0 nd ≠ 0 ∨ cntM s n = 1) : Met l yX4_fail wsX4_fail ({ frames := 1, cells := 0, slots := 0, locals := 23 }) (pC g [.ref (a 0), .int (nI nd)] (wM g a s)) (qI g (nI 0) (wM g a (w3 s 9 0 0 0)) A) 0 0 A := by
  refine k_start (cc := cX4_fail) (maxL := 4) (ret := (some .boolean)) (by decide) rfl (Nat.le_of_ble_eq_true rfl) ?_
  intro pr en s0 m args below meth cd hx hb hml hr hlk hts hown hin hC hP ls hl
  have hS : va_S A s0.heap s0.heap [] := va_S.rf
  have hfx : CallFix pr m cd cX4_fail 4 s0 args wsX4_fail RX4 := ⟨hx, hb, hml, hown, hts⟩
  have hu4 : ∀ w ∈ wsX40, w.before args s0 = true := fun w h => hts w ((by decide +kernel : ∀ w ∈ wsX40, w ∈ wsX4_fail) w h)
  have hl : lv_has ls 4 [(0, .ref (a 0)), (1, .int (nI nd))] := hl
  have m0 := hm.1
  have m1 := hm.2.1
  have f1 := hm.nd nd (by omega)
  have loop : ∀ (d k : Nat), n + 1 ≤ k + d → k ≤ n → ∀ (H : Heap) (locs : List Loc), va_P g.1 vwCl (wM g a (w3 s 9 0 0 0)) H → va_S A s0.heap H locs → ∀ ls : Array Slot, lv_has ls 4 [(3, .int (nI k)), (2, .int (nI (cntM s k))), (0, .ref (a 0)), (1, .int (nI nd))] → W pr l en ({ frames := 1, cells := 0, slots := 0, locals := 23 }) s0 m args below meth cd H locs 0 0 (MQ below (qI g (nI 0) (wM g a (w3 s 9 0 0 0)) A) args s0 0 0 A) (F0 m 26 ls []) := by
    intro d
    induction d with
    | zero => intro k h1 h2; exact absurd h1 (by omega)
    | succ d ih =>
      intro k h1 h2 H locs hP hS ls hl
      have f2 := cntM_le s k
      refine lv_iload_n hx hb dX4_fail_26 rfl (lv_at hl 0 rfl) ?_
      refine lv_aload_n hx hb dX4_fail_27 rfl (lv_at hl 2 rfl) ?_
      refine va_get (D := g.1) (C := RX4) (T := TX4) (N := 11) (ci := 4) hx hb hu4 (fun _ h => h) hown hC.1 hP _ (wM_obj) rfl 0 (by decide) (hts (.fieldLink RX4 32 "SplicedChainModel" "nodes" "I") (by decide +kernel)) (fun _ h9 => h9) rfl dX4_fail_28 ?_
      refine k_as (x := s 10 0 0) (by simp [w3]) ?_
      refine k_icmp_ge (tgt := 57) hx hb dX4_fail_31 (by decide) (by omega) (by omega) (fun c31 => ?_) (fun c31 => ?_)
      · skip
        have ek : k = n := by omega
        refine lv_aload_n hx hb dX4_fail_57 rfl (lv_at hl 2 rfl) ?_
        refine va_get (D := g.1) (C := RX4) (T := TX4) (N := 11) (ci := 4) hx hb hu4 (fun _ h => h) hown hC.1 hP _ (wM_obj) rfl 4 (by decide) (hts (.fieldLink RX4 13 "SplicedChainModel" "failed" "[Z") (by decide +kernel)) (fun _ h9 => h9) rfl dX4_fail_58 ?_
        refine lv_iload_n hx hb dX4_fail_61 rfl (lv_at hl 3 rfl) ?_
        refine k_zald hx hb hC hP _ (wM_failed) (j := nd) (by omega) (by omega) dX4_fail_62 ?_
        refine k_as (x := s 2 0 nd) (by simp [w3]) ?_
        refine k_if_ne (tgt := 71) hx hb dX4_fail_63 (by decide) (by omega) (fun c63 => ?_) (fun c63 => ?_)
        · skip
          refine k_ic (x := 0) hx hb dX4_fail_71 (by decide) ?_
          exact k_zret hx hb hr hlk (by rfl) (by decide) hP hS dX4_fail_72
        · skip
          refine lv_iload_n hx hb dX4_fail_66 rfl (lv_at hl 1 rfl) ?_
          refine k_ic (x := 1) hx hb dX4_fail_67 (by decide) ?_
          refine k_icmp_ne (tgt := 73) hx hb dX4_fail_68 (by decide) (by omega) (by omega) (fun c68 => ?_) (fun c68 => ?_)
          · exfalso; rw [← ek] at hno; omega
          · skip
            refine k_ic (x := 0) hx hb dX4_fail_71 (by decide) ?_
            exact k_zret hx hb hr hlk (by rfl) (by decide) hP hS dX4_fail_72
      · skip
        have f3 := hm.nd k (by omega)
        refine lv_aload_n hx hb dX4_fail_34 rfl (lv_at hl 2 rfl) ?_
        refine va_get (D := g.1) (C := RX4) (T := TX4) (N := 11) (ci := 4) hx hb hu4 (fun _ h => h) hown hC.1 hP _ (wM_obj) rfl 4 (by decide) (hts (.fieldLink RX4 13 "SplicedChainModel" "failed" "[Z") (by decide +kernel)) (fun _ h9 => h9) rfl dX4_fail_35 ?_
        refine lv_iload_n hx hb dX4_fail_38 rfl (lv_at hl 0 rfl) ?_
        refine k_zald hx hb hC hP _ (wM_failed) (j := k) (by omega) (by omega) dX4_fail_39 ?_
        refine k_as (x := s 2 0 k) (by simp [w3]) ?_
        refine k_if_eq (tgt := 47) hx hb dX4_fail_40 (by decide) (by omega) (fun c40 => ?_) (fun c40 => ?_)
        · skip
          refine lv_iload_n hx hb dX4_fail_47 rfl (lv_at hl 1 rfl) ?_
          refine k_ic (x := 1) hx hb dX4_fail_48 (by decide) ?_
          refine k_iadd (x := cntM s k) (y := 1) hx hb dX4_fail_49 ?_
          refine lv_istore_n (lv' := [(2, .int (nI ((cntM s k) + 1))), (3, .int (nI k)), (0, .ref (a 0)), (1, .int (nI nd))]) hx hb dX4_fail_50 rfl hl (by decide) rfl (fun ls hl => ?_)
          refine lv_iinc (v := nI (k + 1)) (lv' := [(3, .int (nI (k + 1))), (2, .int (nI ((cntM s k) + 1))), (0, .ref (a 0)), (1, .int (nI nd))]) hx hb dX4_fail_51 hl (k := 1) rfl (nI_add _ _) (by decide) rfl (fun ls hl => ?_)
          refine lv_goto (tgt := 26) hx hb dX4_fail_54 (by decide) ?_
          exact ih (k + 1) (by omega) (by omega) H locs hP hS ls (by rw [show cntM s (k + 1) = (cntM s k) + 1 by simp [cntM, c40]]; exact lv_sub hl [0, 1, 2, 3] rfl)
        · skip
          refine lv_iload_n hx hb dX4_fail_43 rfl (lv_at hl 1 rfl) ?_
          refine lv_goto (tgt := 50) hx hb dX4_fail_44 (by decide) ?_
          refine lv_istore_n (lv' := [(2, .int (nI (cntM s k))), (3, .int (nI k)), (0, .ref (a 0)), (1, .int (nI nd))]) hx hb dX4_fail_50 rfl hl (by decide) rfl (fun ls hl => ?_)
          refine lv_iinc (v := nI (k + 1)) (lv' := [(3, .int (nI (k + 1))), (2, .int (nI (cntM s k))), (0, .ref (a 0)), (1, .int (nI nd))]) hx hb dX4_fail_51 hl (k := 1) rfl (nI_add _ _) (by decide) rfl (fun ls hl => ?_)
          refine lv_goto (tgt := 26) hx hb dX4_fail_54 (by decide) ?_
          exact ih (k + 1) (by omega) (by omega) H locs hP hS ls (by rw [show cntM s (k + 1) = cntM s k by simp [cntM, c40]]; exact lv_sub hl [0, 1, 2, 3] rfl)
  refine lv_aload_n hx hb dX4_fail_0 rfl (lv_at hl 0 rfl) ?_
  refine lv_aload_n hx hb dX4_fail_1 rfl (lv_at hl 0 rfl) ?_
  refine lv_iload_n hx hb dX4_fail_2 rfl (lv_at hl 1 rfl) ?_
  refine kV_i (r := nI 1) (w2 := wM g a s) (As := [.int (nI nd)]) (b := a 0) (rest := [.ref (a 0)]) (A1 := A) hfx (c_X4_isNode l hA (s := s) (hm) (j := nd) (by omega)) (cwV 1 hts gX4_fail_X4_isNode rfl rfl rfl (by decide +kernel) ⟨by decide, by decide⟩) (va_recv hC.1 hP (ci := 4) rfl (wM_obj)) hC hP hS (fun _ h => h) rfl hl.1 rfl (Nat.le_of_ble_eq_true rfl) dX4_fail_3 ⟨Nat.le_of_ble_eq_true rfl, Nat.le_of_ble_eq_true rfl⟩ (fun H locs hP hS _ _ => ?_)
  refine k_if_eq (tgt := 13) hx hb dX4_fail_6 (by decide) (by omega) (fun c6 => ?_) (fun c6 => ?_)
  · exfalso; omega
  · skip
    refine k_ic (x := 0) hx hb dX4_fail_9 (by decide) ?_
    refine lv_goto (tgt := 14) hx hb dX4_fail_10 (by decide) ?_
    refine kV_i (r := nI 0) (w2 := wM g a (w3 s 9 0 0 0)) (As := [.int (nI 0)]) (b := a 0) (rest := []) (A1 := A) hfx (c_X4_throwsIt_0 l (n := n) hA (s := s)) (cwV 1 hts gX4_fail_X4_throwsIt rfl rfl rfl (by decide +kernel) ⟨by decide, by decide⟩) (va_recv hC.1 hP (ci := 4) rfl (wM_obj)) hC hP hS (fun _ h => h) rfl hl.1 rfl (Nat.le_of_ble_eq_true rfl) dX4_fail_14 ⟨Nat.le_of_ble_eq_true rfl, Nat.le_of_ble_eq_true rfl⟩ (fun H locs hP hS _ _ => ?_)
    refine k_if_eq (tgt := 22) hx hb dX4_fail_17 (by decide) (by omega) (fun c17 => ?_) (fun c17 => ?_)
    · skip
      refine k_ic (x := 0) hx hb dX4_fail_22 (by decide) ?_
      refine lv_istore_n (lv' := [(2, .int (nI 0)), (0, .ref (a 0)), (1, .int (nI nd))]) hx hb dX4_fail_23 rfl hl (by decide) rfl (fun ls hl => ?_)
      refine k_ic (x := 0) hx hb dX4_fail_24 (by decide) ?_
      refine lv_istore_n (lv' := [(3, .int (nI 0)), (2, .int (nI 0)), (0, .ref (a 0)), (1, .int (nI nd))]) hx hb dX4_fail_25 rfl hl (by decide) rfl (fun ls hl => ?_)
      exact loop (n + 1) 0 (by omega) (by omega) _ _ hP hS ls (lv_sub hl [0, 1, 2, 3] rfl)
    · exfalso; omega
set_option maxHeartbeats 4000000 in
set_option maxRecDepth 100000 in
/-- fail -/
theorem c_X4_fail (l : Launch) {g : GG} {a : Nat → Nat} {n : Nat} {A : Nat → Prop} (hA : Ap A a 8) {s : CS} (hm : Mh n s) {p nd : Nat} (hnd : nd < n) (hp : p < s 1 0 0) (hpe : s 0 0 p = nd) (hu : ∀ k, k < s 1 0 0 → k ≠ p → s 0 0 k ≠ nd) (hfl : s 2 0 nd = 0) (hct : cntM s n ≠ 1) : Met l yX4_fail wsX4_fail ({ frames := 1, cells := 0, slots := 0, locals := 23 }) (pC g [.ref (a 0), .int (nI nd)] (wM g a s)) (qI g (nI 1) (wM g a (failM s nd p)) A) 0 0 A := by
  refine k_start (cc := cX4_fail) (maxL := 4) (ret := (some .boolean)) (by decide) rfl (Nat.le_of_ble_eq_true rfl) ?_
  intro pr en s0 m args below meth cd hx hb hml hr hlk hts hown hin hC hP ls hl
  have hS : va_S A s0.heap s0.heap [] := va_S.rf
  have hfx : CallFix pr m cd cX4_fail 4 s0 args wsX4_fail RX4 := ⟨hx, hb, hml, hown, hts⟩
  have hu4 : ∀ w ∈ wsX40, w.before args s0 = true := fun w h => hts w ((by decide +kernel : ∀ w ∈ wsX40, w ∈ wsX4_fail) w h)
  have hl : lv_has ls 4 [(0, .ref (a 0)), (1, .int (nI nd))] := hl
  have m0 := hm.1
  have m1 := hm.2.1
  have f1 := hm.nd nd (by omega)
  have loop : ∀ (d k : Nat), n + 1 ≤ k + d → k ≤ n → ∀ (H : Heap) (locs : List Loc), va_P g.1 vwCl (wM g a (w3 s 9 0 0 0)) H → va_S A s0.heap H locs → ∀ ls : Array Slot, lv_has ls 4 [(3, .int (nI k)), (2, .int (nI (cntM s k))), (0, .ref (a 0)), (1, .int (nI nd))] → W pr l en ({ frames := 1, cells := 0, slots := 0, locals := 23 }) s0 m args below meth cd H locs 0 0 (MQ below (qI g (nI 1) (wM g a (failM s nd p)) A) args s0 0 0 A) (F0 m 26 ls []) := by
    intro d
    induction d with
    | zero => intro k h1 h2; exact absurd h1 (by omega)
    | succ d ih =>
      intro k h1 h2 H locs hP hS ls hl
      have f2 := cntM_le s k
      refine lv_iload_n hx hb dX4_fail_26 rfl (lv_at hl 0 rfl) ?_
      refine lv_aload_n hx hb dX4_fail_27 rfl (lv_at hl 2 rfl) ?_
      refine va_get (D := g.1) (C := RX4) (T := TX4) (N := 11) (ci := 4) hx hb hu4 (fun _ h => h) hown hC.1 hP _ (wM_obj) rfl 0 (by decide) (hts (.fieldLink RX4 32 "SplicedChainModel" "nodes" "I") (by decide +kernel)) (fun _ h9 => h9) rfl dX4_fail_28 ?_
      refine k_as (x := s 10 0 0) (by simp [w3]) ?_
      refine k_icmp_ge (tgt := 57) hx hb dX4_fail_31 (by decide) (by omega) (by omega) (fun c31 => ?_) (fun c31 => ?_)
      · skip
        have ek : k = n := by omega
        refine lv_aload_n hx hb dX4_fail_57 rfl (lv_at hl 2 rfl) ?_
        refine va_get (D := g.1) (C := RX4) (T := TX4) (N := 11) (ci := 4) hx hb hu4 (fun _ h => h) hown hC.1 hP _ (wM_obj) rfl 4 (by decide) (hts (.fieldLink RX4 13 "SplicedChainModel" "failed" "[Z") (by decide +kernel)) (fun _ h9 => h9) rfl dX4_fail_58 ?_
        refine lv_iload_n hx hb dX4_fail_61 rfl (lv_at hl 3 rfl) ?_
        refine k_zald hx hb hC hP _ (wM_failed) (j := nd) (by omega) (by omega) dX4_fail_62 ?_
        refine k_as (x := s 2 0 nd) (by simp [w3]) ?_
        refine k_if_ne (tgt := 71) hx hb dX4_fail_63 (by decide) (by omega) (fun c63 => ?_) (fun c63 => ?_)
        · exfalso; omega
        · skip
          refine lv_iload_n hx hb dX4_fail_66 rfl (lv_at hl 1 rfl) ?_
          refine k_ic (x := 1) hx hb dX4_fail_67 (by decide) ?_
          refine k_icmp_ne (tgt := 73) hx hb dX4_fail_68 (by decide) (by omega) (by omega) (fun c68 => ?_) (fun c68 => ?_)
          · skip
            refine lv_aload_n hx hb dX4_fail_73 rfl (lv_at hl 2 rfl) ?_
            refine va_get (D := g.1) (C := RX4) (T := TX4) (N := 11) (ci := 4) hx hb hu4 (fun _ h => h) hown hC.1 hP _ (wM_obj) rfl 4 (by decide) (hts (.fieldLink RX4 13 "SplicedChainModel" "failed" "[Z") (by decide +kernel)) (fun _ h9 => h9) rfl dX4_fail_74 ?_
            refine lv_iload_n hx hb dX4_fail_77 rfl (lv_at hl 3 rfl) ?_
            refine k_ic (x := 1) hx hb dX4_fail_78 (by decide) ?_
            refine k_zast hx hb hC hP hA.M hS _ (wM_failed) (j := nd) (by omega) (by omega) (by decide) dX4_fail_79 wpM_failed (fun H locs hP hS => ?_)
            refine lv_aload_n hx hb dX4_fail_80 rfl (lv_at hl 2 rfl) ?_
            refine va_get (D := g.1) (C := RX4) (T := TX4) (N := 11) (ci := 4) hx hb hu4 (fun _ h => h) hown hC.1 hP _ (wM_obj) rfl 5 (by decide) (hts (.fieldLink RX4 17 "SplicedChainModel" "open" "[Z") (by decide +kernel)) (fun _ h9 => h9) rfl dX4_fail_81 ?_
            refine lv_iload_n hx hb dX4_fail_84 rfl (lv_at hl 3 rfl) ?_
            refine k_ic (x := 0) hx hb dX4_fail_85 (by decide) ?_
            refine k_zast hx hb hC hP hA.M hS _ (wM_open) (j := nd) (by omega) (by omega) (by decide) dX4_fail_86 wpM_open (fun H locs hP hS => ?_)
            refine lv_aload_n hx hb dX4_fail_87 rfl (lv_at hl 2 rfl) ?_
            refine lv_iload_n hx hb dX4_fail_88 rfl (lv_at hl 3 rfl) ?_
            refine kV_i (r := nI p) (w2 := wM g a (w3 (w3 (w3 s 9 0 0 0) 2 0 nd 1) 3 0 nd 0)) (As := [.int (nI nd)]) (b := a 0) (rest := []) (A1 := A) hfx (c_X4_placeOf l hA (s := (w3 (w3 (w3 s 9 0 0 0) 2 0 nd 1) 3 0 nd 0)) ((hm.m9.m2 (by omega)).m3 (by omega)) (nd := nd) (p := p) (by omega) (by simp [w3]; exact hp) (by simp [w3]; exact hpe) (fun k hk hne => by simp [w3] at hk ⊢; exact hu k hk hne)) (cwV 1 hts gX4_fail_X4_placeOf rfl rfl rfl (by decide +kernel) ⟨by decide, by decide⟩) (va_recv hC.1 hP (ci := 4) rfl (wM_obj)) hC hP hS (fun _ h => h) rfl hl.1 rfl (Nat.le_of_ble_eq_true rfl) dX4_fail_89 ⟨Nat.le_of_ble_eq_true rfl, Nat.le_of_ble_eq_true rfl⟩ (fun H locs hP hS _ _ => ?_)
            have f4 := hm.ch (p - 1) (by omega)
            refine lv_istore_n (lv' := [(3, .int (nI p)), (2, .int (nI (cntM s k))), (0, .ref (a 0)), (1, .int (nI nd))]) hx hb dX4_fail_92 rfl hl (by decide) rfl (fun ls hl => ?_)
            refine lv_iload_n hx hb dX4_fail_93 rfl (lv_at hl 0 rfl) ?_
            refine k_if_le (tgt := 111) hx hb dX4_fail_94 (by decide) (by omega) (fun c94 => ?_) (fun c94 => ?_)
            · skip
              refine k_ic (x := 1) hx hb dX4_fail_111 (by decide) ?_
              exact k_zret hx hb hr hlk (by rfl) (by decide) (P_eq (congrArg (wM g a) (by unfold failM; first | rw [if_pos (by omega)] | rw [if_neg (by omega)])) hP) hS dX4_fail_112
            · skip
              refine lv_aload_n hx hb dX4_fail_97 rfl (lv_at hl 2 rfl) ?_
              refine va_get (D := g.1) (C := RX4) (T := TX4) (N := 11) (ci := 4) hx hb hu4 (fun _ h => h) hown hC.1 hP _ (wM_obj) rfl 5 (by decide) (hts (.fieldLink RX4 17 "SplicedChainModel" "open" "[Z") (by decide +kernel)) (fun _ h9 => h9) rfl dX4_fail_98 ?_
              refine lv_aload_n hx hb dX4_fail_101 rfl (lv_at hl 2 rfl) ?_
              refine va_get (D := g.1) (C := RX4) (T := TX4) (N := 11) (ci := 4) hx hb hu4 (fun _ h => h) hown hC.1 hP _ (wM_obj) rfl 3 (by decide) (hts (.fieldLink RX4 7 "SplicedChainModel" "chain" "[I") (by decide +kernel)) (fun _ h9 => h9) rfl dX4_fail_102 ?_
              refine lv_iload_n hx hb dX4_fail_105 rfl (lv_at hl 0 rfl) ?_
              refine k_ic (x := 1) hx hb dX4_fail_106 (by decide) ?_
              refine k_isub (x := p) (y := 1) hx hb (by omega) dX4_fail_107 ?_
              refine k_iald hx hb hC hP _ (wM_chain) (j := p - 1) (by omega) (by omega) dX4_fail_108 ?_
              refine k_as (x := s 0 0 (p - 1)) (by simp [w3]) ?_
              refine k_ic (x := 0) hx hb dX4_fail_109 (by decide) ?_
              refine k_zast hx hb hC hP hA.M hS _ (wM_open) (j := s 0 0 (p - 1)) (by omega) (by omega) (by decide) dX4_fail_110 wpM_open (fun H locs hP hS => ?_)
              refine k_ic (x := 1) hx hb dX4_fail_111 (by decide) ?_
              exact k_zret hx hb hr hlk (by rfl) (by decide) (P_eq (congrArg (wM g a) (by unfold failM; first | rw [if_pos (by omega)] | rw [if_neg (by omega)])) hP) hS dX4_fail_112
          · exfalso; rw [ek] at c68; omega
      · skip
        have f3 := hm.nd k (by omega)
        refine lv_aload_n hx hb dX4_fail_34 rfl (lv_at hl 2 rfl) ?_
        refine va_get (D := g.1) (C := RX4) (T := TX4) (N := 11) (ci := 4) hx hb hu4 (fun _ h => h) hown hC.1 hP _ (wM_obj) rfl 4 (by decide) (hts (.fieldLink RX4 13 "SplicedChainModel" "failed" "[Z") (by decide +kernel)) (fun _ h9 => h9) rfl dX4_fail_35 ?_
        refine lv_iload_n hx hb dX4_fail_38 rfl (lv_at hl 0 rfl) ?_
        refine k_zald hx hb hC hP _ (wM_failed) (j := k) (by omega) (by omega) dX4_fail_39 ?_
        refine k_as (x := s 2 0 k) (by simp [w3]) ?_
        refine k_if_eq (tgt := 47) hx hb dX4_fail_40 (by decide) (by omega) (fun c40 => ?_) (fun c40 => ?_)
        · skip
          refine lv_iload_n hx hb dX4_fail_47 rfl (lv_at hl 1 rfl) ?_
          refine k_ic (x := 1) hx hb dX4_fail_48 (by decide) ?_
          refine k_iadd (x := cntM s k) (y := 1) hx hb dX4_fail_49 ?_
          refine lv_istore_n (lv' := [(2, .int (nI ((cntM s k) + 1))), (3, .int (nI k)), (0, .ref (a 0)), (1, .int (nI nd))]) hx hb dX4_fail_50 rfl hl (by decide) rfl (fun ls hl => ?_)
          refine lv_iinc (v := nI (k + 1)) (lv' := [(3, .int (nI (k + 1))), (2, .int (nI ((cntM s k) + 1))), (0, .ref (a 0)), (1, .int (nI nd))]) hx hb dX4_fail_51 hl (k := 1) rfl (nI_add _ _) (by decide) rfl (fun ls hl => ?_)
          refine lv_goto (tgt := 26) hx hb dX4_fail_54 (by decide) ?_
          exact ih (k + 1) (by omega) (by omega) H locs hP hS ls (by rw [show cntM s (k + 1) = (cntM s k) + 1 by simp [cntM, c40]]; exact lv_sub hl [0, 1, 2, 3] rfl)
        · skip
          refine lv_iload_n hx hb dX4_fail_43 rfl (lv_at hl 1 rfl) ?_
          refine lv_goto (tgt := 50) hx hb dX4_fail_44 (by decide) ?_
          refine lv_istore_n (lv' := [(2, .int (nI (cntM s k))), (3, .int (nI k)), (0, .ref (a 0)), (1, .int (nI nd))]) hx hb dX4_fail_50 rfl hl (by decide) rfl (fun ls hl => ?_)
          refine lv_iinc (v := nI (k + 1)) (lv' := [(3, .int (nI (k + 1))), (2, .int (nI (cntM s k))), (0, .ref (a 0)), (1, .int (nI nd))]) hx hb dX4_fail_51 hl (k := 1) rfl (nI_add _ _) (by decide) rfl (fun ls hl => ?_)
          refine lv_goto (tgt := 26) hx hb dX4_fail_54 (by decide) ?_
          exact ih (k + 1) (by omega) (by omega) H locs hP hS ls (by rw [show cntM s (k + 1) = cntM s k by simp [cntM, c40]]; exact lv_sub hl [0, 1, 2, 3] rfl)
  refine lv_aload_n hx hb dX4_fail_0 rfl (lv_at hl 0 rfl) ?_
  refine lv_aload_n hx hb dX4_fail_1 rfl (lv_at hl 0 rfl) ?_
  refine lv_iload_n hx hb dX4_fail_2 rfl (lv_at hl 1 rfl) ?_
  refine kV_i (r := nI 1) (w2 := wM g a s) (As := [.int (nI nd)]) (b := a 0) (rest := [.ref (a 0)]) (A1 := A) hfx (c_X4_isNode l hA (s := s) (hm) (j := nd) (by omega)) (cwV 1 hts gX4_fail_X4_isNode rfl rfl rfl (by decide +kernel) ⟨by decide, by decide⟩) (va_recv hC.1 hP (ci := 4) rfl (wM_obj)) hC hP hS (fun _ h => h) rfl hl.1 rfl (Nat.le_of_ble_eq_true rfl) dX4_fail_3 ⟨Nat.le_of_ble_eq_true rfl, Nat.le_of_ble_eq_true rfl⟩ (fun H locs hP hS _ _ => ?_)
  refine k_if_eq (tgt := 13) hx hb dX4_fail_6 (by decide) (by omega) (fun c6 => ?_) (fun c6 => ?_)
  · exfalso; omega
  · skip
    refine k_ic (x := 0) hx hb dX4_fail_9 (by decide) ?_
    refine lv_goto (tgt := 14) hx hb dX4_fail_10 (by decide) ?_
    refine kV_i (r := nI 0) (w2 := wM g a (w3 s 9 0 0 0)) (As := [.int (nI 0)]) (b := a 0) (rest := []) (A1 := A) hfx (c_X4_throwsIt_0 l (n := n) hA (s := s)) (cwV 1 hts gX4_fail_X4_throwsIt rfl rfl rfl (by decide +kernel) ⟨by decide, by decide⟩) (va_recv hC.1 hP (ci := 4) rfl (wM_obj)) hC hP hS (fun _ h => h) rfl hl.1 rfl (Nat.le_of_ble_eq_true rfl) dX4_fail_14 ⟨Nat.le_of_ble_eq_true rfl, Nat.le_of_ble_eq_true rfl⟩ (fun H locs hP hS _ _ => ?_)
    refine k_if_eq (tgt := 22) hx hb dX4_fail_17 (by decide) (by omega) (fun c17 => ?_) (fun c17 => ?_)
    · skip
      refine k_ic (x := 0) hx hb dX4_fail_22 (by decide) ?_
      refine lv_istore_n (lv' := [(2, .int (nI 0)), (0, .ref (a 0)), (1, .int (nI nd))]) hx hb dX4_fail_23 rfl hl (by decide) rfl (fun ls hl => ?_)
      refine k_ic (x := 0) hx hb dX4_fail_24 (by decide) ?_
      refine lv_istore_n (lv' := [(3, .int (nI 0)), (2, .int (nI 0)), (0, .ref (a 0)), (1, .int (nI nd))]) hx hb dX4_fail_25 rfl hl (by decide) rfl (fun ls hl => ?_)
      exact loop (n + 1) 0 (by omega) (by omega) _ _ hP hS ls (lv_sub hl [0, 1, 2, 3] rfl)
    · exfalso; omega
set_option maxHeartbeats 4000000 in
set_option maxRecDepth 100000 in
/-- resync: no node -/
theorem c_X4_resync_1 (l : Launch) {g : GG} {a : Nat → Nat} {n : Nat} {A : Nat → Prop} (hA : Ap A a 8) {s : CS} (hm : Mh n s) {x : Int32} (hbad : x < 0 ∨ nI n ≤ x) : Met l yX4_resync wsX4_resync ({ frames := 1, cells := 0, slots := 0, locals := 23 }) (pC g [.ref (a 0), .int (x)] (wM g a s)) (qI g (nI 0) (wM g a (w3 s 9 0 0 1)) A) 0 0 A := by
  refine k_start (cc := cX4_resync) (maxL := 3) (ret := (some .int)) (by decide) rfl (Nat.le_of_ble_eq_true rfl) ?_
  intro pr en s0 m args below meth cd hx hb hml hr hlk hts hown hin hC hP ls hl
  have hS : va_S A s0.heap s0.heap [] := va_S.rf
  have hfx : CallFix pr m cd cX4_resync 3 s0 args wsX4_resync RX4 := ⟨hx, hb, hml, hown, hts⟩
  have hu4 : ∀ w ∈ wsX40, w.before args s0 = true := fun w h => hts w ((by decide +kernel : ∀ w ∈ wsX40, w ∈ wsX4_resync) w h)
  have hl : lv_has ls 3 [(0, .ref (a 0)), (1, .int (x))] := hl
  have m0 := hm.1
  have m1 := hm.2.1
  refine lv_aload_n hx hb dX4_resync_0 rfl (lv_at hl 0 rfl) ?_
  refine lv_iload_n hx hb dX4_resync_1 rfl (lv_at hl 1 rfl) ?_
  refine kV_i (r := nI 0) (w2 := wM g a s) (As := [.int (x)]) (b := a 0) (rest := []) (A1 := A) hfx (c_X4_isNode_no l hA (s := s) (hm) (x := x) hbad) (cwV 1 hts gX4_resync_X4_isNode rfl rfl rfl (by decide +kernel) ⟨by decide, by decide⟩) (va_recv hC.1 hP (ci := 4) rfl (wM_obj)) hC hP hS (fun _ h => h) rfl hl.1 rfl (Nat.le_of_ble_eq_true rfl) dX4_resync_2 ⟨Nat.le_of_ble_eq_true rfl, Nat.le_of_ble_eq_true rfl⟩ (fun H locs hP hS _ _ => ?_)
  refine k_if_eq (tgt := 16) hx hb dX4_resync_5 (by decide) (by omega) (fun c5 => ?_) (fun c5 => ?_)
  · skip
    refine lv_iconst (v := -1) hx hb dX4_resync_16 (by decide) ?_
    refine lv_istore_n (lv' := [(2, .int (-1)), (0, .ref (a 0)), (1, .int (x))]) hx hb dX4_resync_17 rfl hl (by decide) rfl (fun ls hl => ?_)
    refine lv_aload_n hx hb dX4_resync_18 rfl (lv_at hl 1 rfl) ?_
    refine lv_aload_n hx hb dX4_resync_19 rfl (lv_at hl 1 rfl) ?_
    refine lv_iload_n hx hb dX4_resync_20 rfl (lv_at hl 2 rfl) ?_
    refine kV_i (r := nI 0) (w2 := wM g a s) (As := [.int (x)]) (b := a 0) (rest := [.ref (a 0)]) (A1 := A) hfx (c_X4_isNode_no l hA (s := s) (hm) (x := x) hbad) (cwV 1 hts gX4_resync_X4_isNode rfl rfl rfl (by decide +kernel) ⟨by decide, by decide⟩) (va_recv hC.1 hP (ci := 4) rfl (wM_obj)) hC hP hS (fun _ h => h) rfl hl.1 rfl (Nat.le_of_ble_eq_true rfl) dX4_resync_21 ⟨Nat.le_of_ble_eq_true rfl, Nat.le_of_ble_eq_true rfl⟩ (fun H locs hP hS _ _ => ?_)
    refine k_if_ne (tgt := 31) hx hb dX4_resync_24 (by decide) (by omega) (fun c24 => ?_) (fun c24 => ?_)
    · exfalso; omega
    · skip
      refine k_ic (x := 1) hx hb dX4_resync_27 (by decide) ?_
      refine lv_goto (tgt := 80) hx hb dX4_resync_28 (by decide) ?_
      refine kV_i (r := nI 1) (w2 := wM g a (w3 s 9 0 0 1)) (As := [.int (nI 1)]) (b := a 0) (rest := []) (A1 := A) hfx (c_X4_throwsIt l (n := n) hA (s := s) (c := 1) (by decide)) (cwV 1 hts gX4_resync_X4_throwsIt rfl rfl rfl (by decide +kernel) ⟨by decide, by decide⟩) (va_recv hC.1 hP (ci := 4) rfl (wM_obj)) hC hP hS (fun _ h => h) rfl hl.1 rfl (Nat.le_of_ble_eq_true rfl) dX4_resync_80 ⟨Nat.le_of_ble_eq_true rfl, Nat.le_of_ble_eq_true rfl⟩ (fun H locs hP hS _ _ => ?_)
      refine k_if_eq (tgt := 88) hx hb dX4_resync_83 (by decide) (by omega) (fun c83 => ?_) (fun c83 => ?_)
      · exfalso; omega
      · skip
        refine k_ic (x := 0) hx hb dX4_resync_86 (by decide) ?_
        exact k_iret hx hb hr hlk (by rfl) hP hS dX4_resync_87
  · exfalso; omega
set_option maxHeartbeats 4000000 in
set_option maxRecDepth 100000 in
/-- resync: refused -/
theorem c_X4_resync_2 (l : Launch) {g : GG} {a : Nat → Nat} {n : Nat} {A : Nat → Prop} (hA : Ap A a 8) {s : CS} (hm : Mh n s) {p nd : Nat} (hnd : nd < n) (hp : p < s 1 0 0) (hpe : s 0 0 p = nd) (hu : ∀ k, k < s 1 0 0 → k ≠ p → s 0 0 k ≠ nd) (hno : s 2 0 nd ≠ 0 ∨ p + 1 = s 1 0 0 ∨ s 2 0 (s 0 0 (p + 1)) ≠ 0 ∨ s 3 0 nd ≠ 0) : Met l yX4_resync wsX4_resync ({ frames := 1, cells := 0, slots := 0, locals := 23 }) (pC g [.ref (a 0), .int (nI nd)] (wM g a s)) (qI g (nI 0) (wM g a (w3 s 9 0 0 2)) A) 0 0 A := by
  refine k_start (cc := cX4_resync) (maxL := 3) (ret := (some .int)) (by decide) rfl (Nat.le_of_ble_eq_true rfl) ?_
  intro pr en s0 m args below meth cd hx hb hml hr hlk hts hown hin hC hP ls hl
  have hS : va_S A s0.heap s0.heap [] := va_S.rf
  have hfx : CallFix pr m cd cX4_resync 3 s0 args wsX4_resync RX4 := ⟨hx, hb, hml, hown, hts⟩
  have hu4 : ∀ w ∈ wsX40, w.before args s0 = true := fun w h => hts w ((by decide +kernel : ∀ w ∈ wsX40, w ∈ wsX4_resync) w h)
  have hl : lv_has ls 3 [(0, .ref (a 0)), (1, .int (nI nd))] := hl
  have m0 := hm.1
  have m1 := hm.2.1
  have f1 := hm.nd nd (by omega)
  refine lv_aload_n hx hb dX4_resync_0 rfl (lv_at hl 0 rfl) ?_
  refine lv_iload_n hx hb dX4_resync_1 rfl (lv_at hl 1 rfl) ?_
  refine kV_i (r := nI 1) (w2 := wM g a s) (As := [.int (nI nd)]) (b := a 0) (rest := []) (A1 := A) hfx (c_X4_isNode l hA (s := s) (hm) (j := nd) (by omega)) (cwV 1 hts gX4_resync_X4_isNode rfl rfl rfl (by decide +kernel) ⟨by decide, by decide⟩) (va_recv hC.1 hP (ci := 4) rfl (wM_obj)) hC hP hS (fun _ h => h) rfl hl.1 rfl (Nat.le_of_ble_eq_true rfl) dX4_resync_2 ⟨Nat.le_of_ble_eq_true rfl, Nat.le_of_ble_eq_true rfl⟩ (fun H locs hP hS _ _ => ?_)
  refine k_if_eq (tgt := 16) hx hb dX4_resync_5 (by decide) (by omega) (fun c5 => ?_) (fun c5 => ?_)
  · exfalso; omega
  · skip
    refine lv_aload_n hx hb dX4_resync_8 rfl (lv_at hl 0 rfl) ?_
    refine lv_iload_n hx hb dX4_resync_9 rfl (lv_at hl 1 rfl) ?_
    refine kV_i (r := nI p) (w2 := wM g a s) (As := [.int (nI nd)]) (b := a 0) (rest := []) (A1 := A) hfx (c_X4_placeOf l hA (s := s) (hm) (nd := nd) (p := p) (by omega) (hp) (hpe) (hu)) (cwV 1 hts gX4_resync_X4_placeOf rfl rfl rfl (by decide +kernel) ⟨by decide, by decide⟩) (va_recv hC.1 hP (ci := 4) rfl (wM_obj)) hC hP hS (fun _ h => h) rfl hl.1 rfl (Nat.le_of_ble_eq_true rfl) dX4_resync_10 ⟨Nat.le_of_ble_eq_true rfl, Nat.le_of_ble_eq_true rfl⟩ (fun H locs hP hS _ _ => ?_)
    refine lv_goto (tgt := 17) hx hb dX4_resync_13 (by decide) ?_
    refine lv_istore_n (lv' := [(2, .int (nI p)), (0, .ref (a 0)), (1, .int (nI nd))]) hx hb dX4_resync_17 rfl hl (by decide) rfl (fun ls hl => ?_)
    refine lv_aload_n hx hb dX4_resync_18 rfl (lv_at hl 1 rfl) ?_
    refine lv_aload_n hx hb dX4_resync_19 rfl (lv_at hl 1 rfl) ?_
    refine lv_iload_n hx hb dX4_resync_20 rfl (lv_at hl 2 rfl) ?_
    refine kV_i (r := nI 1) (w2 := wM g a s) (As := [.int (nI nd)]) (b := a 0) (rest := [.ref (a 0)]) (A1 := A) hfx (c_X4_isNode l hA (s := s) (hm) (j := nd) (by omega)) (cwV 1 hts gX4_resync_X4_isNode rfl rfl rfl (by decide +kernel) ⟨by decide, by decide⟩) (va_recv hC.1 hP (ci := 4) rfl (wM_obj)) hC hP hS (fun _ h => h) rfl hl.1 rfl (Nat.le_of_ble_eq_true rfl) dX4_resync_21 ⟨Nat.le_of_ble_eq_true rfl, Nat.le_of_ble_eq_true rfl⟩ (fun H locs hP hS _ _ => ?_)
    refine k_if_ne (tgt := 31) hx hb dX4_resync_24 (by decide) (by omega) (fun c24 => ?_) (fun c24 => ?_)
    · skip
      refine lv_aload_n hx hb dX4_resync_31 rfl (lv_at hl 1 rfl) ?_
      refine va_get (D := g.1) (C := RX4) (T := TX4) (N := 11) (ci := 4) hx hb hu4 (fun _ h => h) hown hC.1 hP _ (wM_obj) rfl 4 (by decide) (hts (.fieldLink RX4 13 "SplicedChainModel" "failed" "[Z") (by decide +kernel)) (fun _ h9 => h9) rfl dX4_resync_32 ?_
      refine lv_iload_n hx hb dX4_resync_35 rfl (lv_at hl 2 rfl) ?_
      refine k_zald hx hb hC hP _ (wM_failed) (j := nd) (by omega) (by omega) dX4_resync_36 ?_
      refine k_if_ne (tgt := 75) hx hb dX4_resync_37 (by decide) (by omega) (fun c37 => ?_) (fun c37 => ?_)
      · skip
        refine k_ic (x := 2) hx hb dX4_resync_75 (by decide) ?_
        refine lv_goto (tgt := 80) hx hb dX4_resync_76 (by decide) ?_
        refine kV_i (r := nI 1) (w2 := wM g a (w3 s 9 0 0 2)) (As := [.int (nI 2)]) (b := a 0) (rest := []) (A1 := A) hfx (c_X4_throwsIt l (n := n) hA (s := s) (c := 2) (by decide)) (cwV 1 hts gX4_resync_X4_throwsIt rfl rfl rfl (by decide +kernel) ⟨by decide, by decide⟩) (va_recv hC.1 hP (ci := 4) rfl (wM_obj)) hC hP hS (fun _ h => h) rfl hl.1 rfl (Nat.le_of_ble_eq_true rfl) dX4_resync_80 ⟨Nat.le_of_ble_eq_true rfl, Nat.le_of_ble_eq_true rfl⟩ (fun H locs hP hS _ _ => ?_)
        refine k_if_eq (tgt := 88) hx hb dX4_resync_83 (by decide) (by omega) (fun c83 => ?_) (fun c83 => ?_)
        · exfalso; omega
        · skip
          refine k_ic (x := 0) hx hb dX4_resync_86 (by decide) ?_
          exact k_iret hx hb hr hlk (by rfl) hP hS dX4_resync_87
      · skip
        refine lv_iload_n hx hb dX4_resync_40 rfl (lv_at hl 0 rfl) ?_
        refine lv_aload_n hx hb dX4_resync_41 rfl (lv_at hl 1 rfl) ?_
        refine va_get (D := g.1) (C := RX4) (T := TX4) (N := 11) (ci := 4) hx hb hu4 (fun _ h => h) hown hC.1 hP _ (wM_obj) rfl 2 (by decide) (hts (.fieldLink RX4 36 "SplicedChainModel" "size" "I") (by decide +kernel)) (fun _ h9 => h9) rfl dX4_resync_42 ?_
        refine k_ic (x := 1) hx hb dX4_resync_45 (by decide) ?_
        refine k_isub (x := s 1 0 0) (y := 1) hx hb (by omega) dX4_resync_46 ?_
        refine k_icmp_eq (tgt := 75) hx hb dX4_resync_47 (by decide) (by omega) (by omega) (fun c47 => ?_) (fun c47 => ?_)
        · skip
          refine k_ic (x := 2) hx hb dX4_resync_75 (by decide) ?_
          refine lv_goto (tgt := 80) hx hb dX4_resync_76 (by decide) ?_
          refine kV_i (r := nI 1) (w2 := wM g a (w3 s 9 0 0 2)) (As := [.int (nI 2)]) (b := a 0) (rest := []) (A1 := A) hfx (c_X4_throwsIt l (n := n) hA (s := s) (c := 2) (by decide)) (cwV 1 hts gX4_resync_X4_throwsIt rfl rfl rfl (by decide +kernel) ⟨by decide, by decide⟩) (va_recv hC.1 hP (ci := 4) rfl (wM_obj)) hC hP hS (fun _ h => h) rfl hl.1 rfl (Nat.le_of_ble_eq_true rfl) dX4_resync_80 ⟨Nat.le_of_ble_eq_true rfl, Nat.le_of_ble_eq_true rfl⟩ (fun H locs hP hS _ _ => ?_)
          refine k_if_eq (tgt := 88) hx hb dX4_resync_83 (by decide) (by omega) (fun c83 => ?_) (fun c83 => ?_)
          · exfalso; omega
          · skip
            refine k_ic (x := 0) hx hb dX4_resync_86 (by decide) ?_
            exact k_iret hx hb hr hlk (by rfl) hP hS dX4_resync_87
        · skip
          have f2 := hm.ch (p + 1) (by omega)
          have f3 := hm.nd _ f2
          refine lv_aload_n hx hb dX4_resync_50 rfl (lv_at hl 1 rfl) ?_
          refine va_get (D := g.1) (C := RX4) (T := TX4) (N := 11) (ci := 4) hx hb hu4 (fun _ h => h) hown hC.1 hP _ (wM_obj) rfl 4 (by decide) (hts (.fieldLink RX4 13 "SplicedChainModel" "failed" "[Z") (by decide +kernel)) (fun _ h9 => h9) rfl dX4_resync_51 ?_
          refine lv_aload_n hx hb dX4_resync_54 rfl (lv_at hl 1 rfl) ?_
          refine va_get (D := g.1) (C := RX4) (T := TX4) (N := 11) (ci := 4) hx hb hu4 (fun _ h => h) hown hC.1 hP _ (wM_obj) rfl 3 (by decide) (hts (.fieldLink RX4 7 "SplicedChainModel" "chain" "[I") (by decide +kernel)) (fun _ h9 => h9) rfl dX4_resync_55 ?_
          refine lv_iload_n hx hb dX4_resync_58 rfl (lv_at hl 0 rfl) ?_
          refine k_ic (x := 1) hx hb dX4_resync_59 (by decide) ?_
          refine k_iadd (x := p) (y := 1) hx hb dX4_resync_60 ?_
          refine k_iald hx hb hC hP _ (wM_chain) (j := p + 1) (by omega) (by omega) dX4_resync_61 ?_
          refine k_zald hx hb hC hP _ (wM_failed) (j := s 0 0 (p + 1)) (by omega) (by omega) dX4_resync_62 ?_
          refine k_if_ne (tgt := 75) hx hb dX4_resync_63 (by decide) (by omega) (fun c63 => ?_) (fun c63 => ?_)
          · skip
            refine k_ic (x := 2) hx hb dX4_resync_75 (by decide) ?_
            refine lv_goto (tgt := 80) hx hb dX4_resync_76 (by decide) ?_
            refine kV_i (r := nI 1) (w2 := wM g a (w3 s 9 0 0 2)) (As := [.int (nI 2)]) (b := a 0) (rest := []) (A1 := A) hfx (c_X4_throwsIt l (n := n) hA (s := s) (c := 2) (by decide)) (cwV 1 hts gX4_resync_X4_throwsIt rfl rfl rfl (by decide +kernel) ⟨by decide, by decide⟩) (va_recv hC.1 hP (ci := 4) rfl (wM_obj)) hC hP hS (fun _ h => h) rfl hl.1 rfl (Nat.le_of_ble_eq_true rfl) dX4_resync_80 ⟨Nat.le_of_ble_eq_true rfl, Nat.le_of_ble_eq_true rfl⟩ (fun H locs hP hS _ _ => ?_)
            refine k_if_eq (tgt := 88) hx hb dX4_resync_83 (by decide) (by omega) (fun c83 => ?_) (fun c83 => ?_)
            · exfalso; omega
            · skip
              refine k_ic (x := 0) hx hb dX4_resync_86 (by decide) ?_
              exact k_iret hx hb hr hlk (by rfl) hP hS dX4_resync_87
          · skip
            refine lv_aload_n hx hb dX4_resync_66 rfl (lv_at hl 1 rfl) ?_
            refine va_get (D := g.1) (C := RX4) (T := TX4) (N := 11) (ci := 4) hx hb hu4 (fun _ h => h) hown hC.1 hP _ (wM_obj) rfl 5 (by decide) (hts (.fieldLink RX4 17 "SplicedChainModel" "open" "[Z") (by decide +kernel)) (fun _ h9 => h9) rfl dX4_resync_67 ?_
            refine lv_iload_n hx hb dX4_resync_70 rfl (lv_at hl 2 rfl) ?_
            refine k_zald hx hb hC hP _ (wM_open) (j := nd) (by omega) (by omega) dX4_resync_71 ?_
            refine k_if_eq (tgt := 79) hx hb dX4_resync_72 (by decide) (by omega) (fun c72 => ?_) (fun c72 => ?_)
            · exfalso; omega
            · skip
              refine k_ic (x := 2) hx hb dX4_resync_75 (by decide) ?_
              refine lv_goto (tgt := 80) hx hb dX4_resync_76 (by decide) ?_
              refine kV_i (r := nI 1) (w2 := wM g a (w3 s 9 0 0 2)) (As := [.int (nI 2)]) (b := a 0) (rest := []) (A1 := A) hfx (c_X4_throwsIt l (n := n) hA (s := s) (c := 2) (by decide)) (cwV 1 hts gX4_resync_X4_throwsIt rfl rfl rfl (by decide +kernel) ⟨by decide, by decide⟩) (va_recv hC.1 hP (ci := 4) rfl (wM_obj)) hC hP hS (fun _ h => h) rfl hl.1 rfl (Nat.le_of_ble_eq_true rfl) dX4_resync_80 ⟨Nat.le_of_ble_eq_true rfl, Nat.le_of_ble_eq_true rfl⟩ (fun H locs hP hS _ _ => ?_)
              refine k_if_eq (tgt := 88) hx hb dX4_resync_83 (by decide) (by omega) (fun c83 => ?_) (fun c83 => ?_)
              · exfalso; omega
              · skip
                refine k_ic (x := 0) hx hb dX4_resync_86 (by decide) ?_
                exact k_iret hx hb hr hlk (by rfl) hP hS dX4_resync_87
    · exfalso; omega
set_option maxHeartbeats 4000000 in
set_option maxRecDepth 100000 in
/-- resync: out of the chain -/
theorem c_X4_resync_2o (l : Launch) {g : GG} {a : Nat → Nat} {n : Nat} {A : Nat → Prop} (hA : Ap A a 8) {s : CS} (hm : Mh n s) {nd : Nat} (hnd : nd < n) (hno : ∀ k, k < s 1 0 0 → s 0 0 k ≠ nd) (hfl : s 2 0 nd ≠ 0) : Met l yX4_resync wsX4_resync ({ frames := 1, cells := 0, slots := 0, locals := 23 }) (pC g [.ref (a 0), .int (nI nd)] (wM g a s)) (qI g (nI 0) (wM g a (w3 s 9 0 0 2)) A) 0 0 A := by
  refine k_start (cc := cX4_resync) (maxL := 3) (ret := (some .int)) (by decide) rfl (Nat.le_of_ble_eq_true rfl) ?_
  intro pr en s0 m args below meth cd hx hb hml hr hlk hts hown hin hC hP ls hl
  have hS : va_S A s0.heap s0.heap [] := va_S.rf
  have hfx : CallFix pr m cd cX4_resync 3 s0 args wsX4_resync RX4 := ⟨hx, hb, hml, hown, hts⟩
  have hu4 : ∀ w ∈ wsX40, w.before args s0 = true := fun w h => hts w ((by decide +kernel : ∀ w ∈ wsX40, w ∈ wsX4_resync) w h)
  have hl : lv_has ls 3 [(0, .ref (a 0)), (1, .int (nI nd))] := hl
  have m0 := hm.1
  have m1 := hm.2.1
  have f1 := hm.nd nd (by omega)
  refine lv_aload_n hx hb dX4_resync_0 rfl (lv_at hl 0 rfl) ?_
  refine lv_iload_n hx hb dX4_resync_1 rfl (lv_at hl 1 rfl) ?_
  refine kV_i (r := nI 1) (w2 := wM g a s) (As := [.int (nI nd)]) (b := a 0) (rest := []) (A1 := A) hfx (c_X4_isNode l hA (s := s) (hm) (j := nd) (by omega)) (cwV 1 hts gX4_resync_X4_isNode rfl rfl rfl (by decide +kernel) ⟨by decide, by decide⟩) (va_recv hC.1 hP (ci := 4) rfl (wM_obj)) hC hP hS (fun _ h => h) rfl hl.1 rfl (Nat.le_of_ble_eq_true rfl) dX4_resync_2 ⟨Nat.le_of_ble_eq_true rfl, Nat.le_of_ble_eq_true rfl⟩ (fun H locs hP hS _ _ => ?_)
  refine k_if_eq (tgt := 16) hx hb dX4_resync_5 (by decide) (by omega) (fun c5 => ?_) (fun c5 => ?_)
  · exfalso; omega
  · skip
    refine lv_aload_n hx hb dX4_resync_8 rfl (lv_at hl 0 rfl) ?_
    refine lv_iload_n hx hb dX4_resync_9 rfl (lv_at hl 1 rfl) ?_
    refine kV_i (r := -1) (w2 := wM g a s) (As := [.int (nI nd)]) (b := a 0) (rest := []) (A1 := A) hfx (c_X4_placeOf_no l hA (s := s) (hm) (nd := nd) (by omega) (hno)) (cwV 1 hts gX4_resync_X4_placeOf rfl rfl rfl (by decide +kernel) ⟨by decide, by decide⟩) (va_recv hC.1 hP (ci := 4) rfl (wM_obj)) hC hP hS (fun _ h => h) rfl hl.1 rfl (Nat.le_of_ble_eq_true rfl) dX4_resync_10 ⟨Nat.le_of_ble_eq_true rfl, Nat.le_of_ble_eq_true rfl⟩ (fun H locs hP hS _ _ => ?_)
    refine lv_goto (tgt := 17) hx hb dX4_resync_13 (by decide) ?_
    refine lv_istore_n (lv' := [(2, .int (-1)), (0, .ref (a 0)), (1, .int (nI nd))]) hx hb dX4_resync_17 rfl hl (by decide) rfl (fun ls hl => ?_)
    refine lv_aload_n hx hb dX4_resync_18 rfl (lv_at hl 1 rfl) ?_
    refine lv_aload_n hx hb dX4_resync_19 rfl (lv_at hl 1 rfl) ?_
    refine lv_iload_n hx hb dX4_resync_20 rfl (lv_at hl 2 rfl) ?_
    refine kV_i (r := nI 1) (w2 := wM g a s) (As := [.int (nI nd)]) (b := a 0) (rest := [.ref (a 0)]) (A1 := A) hfx (c_X4_isNode l hA (s := s) (hm) (j := nd) (by omega)) (cwV 1 hts gX4_resync_X4_isNode rfl rfl rfl (by decide +kernel) ⟨by decide, by decide⟩) (va_recv hC.1 hP (ci := 4) rfl (wM_obj)) hC hP hS (fun _ h => h) rfl hl.1 rfl (Nat.le_of_ble_eq_true rfl) dX4_resync_21 ⟨Nat.le_of_ble_eq_true rfl, Nat.le_of_ble_eq_true rfl⟩ (fun H locs hP hS _ _ => ?_)
    refine k_if_ne (tgt := 31) hx hb dX4_resync_24 (by decide) (by omega) (fun c24 => ?_) (fun c24 => ?_)
    · skip
      refine lv_aload_n hx hb dX4_resync_31 rfl (lv_at hl 1 rfl) ?_
      refine va_get (D := g.1) (C := RX4) (T := TX4) (N := 11) (ci := 4) hx hb hu4 (fun _ h => h) hown hC.1 hP _ (wM_obj) rfl 4 (by decide) (hts (.fieldLink RX4 13 "SplicedChainModel" "failed" "[Z") (by decide +kernel)) (fun _ h9 => h9) rfl dX4_resync_32 ?_
      refine lv_iload_n hx hb dX4_resync_35 rfl (lv_at hl 2 rfl) ?_
      refine k_zald hx hb hC hP _ (wM_failed) (j := nd) (by omega) (by omega) dX4_resync_36 ?_
      refine k_if_ne (tgt := 75) hx hb dX4_resync_37 (by decide) (by omega) (fun c37 => ?_) (fun c37 => ?_)
      · skip
        refine k_ic (x := 2) hx hb dX4_resync_75 (by decide) ?_
        refine lv_goto (tgt := 80) hx hb dX4_resync_76 (by decide) ?_
        refine kV_i (r := nI 1) (w2 := wM g a (w3 s 9 0 0 2)) (As := [.int (nI 2)]) (b := a 0) (rest := []) (A1 := A) hfx (c_X4_throwsIt l (n := n) hA (s := s) (c := 2) (by decide)) (cwV 1 hts gX4_resync_X4_throwsIt rfl rfl rfl (by decide +kernel) ⟨by decide, by decide⟩) (va_recv hC.1 hP (ci := 4) rfl (wM_obj)) hC hP hS (fun _ h => h) rfl hl.1 rfl (Nat.le_of_ble_eq_true rfl) dX4_resync_80 ⟨Nat.le_of_ble_eq_true rfl, Nat.le_of_ble_eq_true rfl⟩ (fun H locs hP hS _ _ => ?_)
        refine k_if_eq (tgt := 88) hx hb dX4_resync_83 (by decide) (by omega) (fun c83 => ?_) (fun c83 => ?_)
        · exfalso; omega
        · skip
          refine k_ic (x := 0) hx hb dX4_resync_86 (by decide) ?_
          exact k_iret hx hb hr hlk (by rfl) hP hS dX4_resync_87
      · exfalso; omega
    · exfalso; omega
set_option maxHeartbeats 4000000 in
set_option maxRecDepth 100000 in
/-- resync -/
theorem c_X4_resync (l : Launch) {g : GG} {a : Nat → Nat} {n : Nat} {A : Nat → Prop} (hA : Ap A a 8) {s : CS} (hm : Mh n s) {p nd : Nat} (hnd : nd < n) (hp : p < s 1 0 0) (hpe : s 0 0 p = nd) (hu : ∀ k, k < s 1 0 0 → k ≠ p → s 0 0 k ≠ nd) (hok : s 2 0 nd = 0 ∧ p + 1 ≠ s 1 0 0 ∧ s 2 0 (s 0 0 (p + 1)) = 0 ∧ s 3 0 nd = 0) (hle : s 4 0 (s 0 0 (p + 1)) ≤ s 4 0 nd) : Met l yX4_resync wsX4_resync ({ frames := 1, cells := 0, slots := 0, locals := 23 }) (pC g [.ref (a 0), .int (nI nd)] (wM g a s)) (qI g (nI (s 4 0 nd - s 4 0 (s 0 0 (p + 1)))) (wM g a (w3 (w3 s 9 0 0 0) 3 0 nd 1)) A) 0 0 A := by
  refine k_start (cc := cX4_resync) (maxL := 3) (ret := (some .int)) (by decide) rfl (Nat.le_of_ble_eq_true rfl) ?_
  intro pr en s0 m args below meth cd hx hb hml hr hlk hts hown hin hC hP ls hl
  have hS : va_S A s0.heap s0.heap [] := va_S.rf
  have hfx : CallFix pr m cd cX4_resync 3 s0 args wsX4_resync RX4 := ⟨hx, hb, hml, hown, hts⟩
  have hu4 : ∀ w ∈ wsX40, w.before args s0 = true := fun w h => hts w ((by decide +kernel : ∀ w ∈ wsX40, w ∈ wsX4_resync) w h)
  have hl : lv_has ls 3 [(0, .ref (a 0)), (1, .int (nI nd))] := hl
  have m0 := hm.1
  have m1 := hm.2.1
  have f2 := hm.ch (p + 1) (by omega)
  refine lv_aload_n hx hb dX4_resync_0 rfl (lv_at hl 0 rfl) ?_
  refine lv_iload_n hx hb dX4_resync_1 rfl (lv_at hl 1 rfl) ?_
  refine kV_i (r := nI 1) (w2 := wM g a s) (As := [.int (nI nd)]) (b := a 0) (rest := []) (A1 := A) hfx (c_X4_isNode l hA (s := s) (hm) (j := nd) (by omega)) (cwV 1 hts gX4_resync_X4_isNode rfl rfl rfl (by decide +kernel) ⟨by decide, by decide⟩) (va_recv hC.1 hP (ci := 4) rfl (wM_obj)) hC hP hS (fun _ h => h) rfl hl.1 rfl (Nat.le_of_ble_eq_true rfl) dX4_resync_2 ⟨Nat.le_of_ble_eq_true rfl, Nat.le_of_ble_eq_true rfl⟩ (fun H locs hP hS _ _ => ?_)
  refine k_if_eq (tgt := 16) hx hb dX4_resync_5 (by decide) (by omega) (fun c5 => ?_) (fun c5 => ?_)
  · exfalso; omega
  · skip
    refine lv_aload_n hx hb dX4_resync_8 rfl (lv_at hl 0 rfl) ?_
    refine lv_iload_n hx hb dX4_resync_9 rfl (lv_at hl 1 rfl) ?_
    refine kV_i (r := nI p) (w2 := wM g a s) (As := [.int (nI nd)]) (b := a 0) (rest := []) (A1 := A) hfx (c_X4_placeOf l hA (s := s) (hm) (nd := nd) (p := p) (by omega) (hp) (hpe) (hu)) (cwV 1 hts gX4_resync_X4_placeOf rfl rfl rfl (by decide +kernel) ⟨by decide, by decide⟩) (va_recv hC.1 hP (ci := 4) rfl (wM_obj)) hC hP hS (fun _ h => h) rfl hl.1 rfl (Nat.le_of_ble_eq_true rfl) dX4_resync_10 ⟨Nat.le_of_ble_eq_true rfl, Nat.le_of_ble_eq_true rfl⟩ (fun H locs hP hS _ _ => ?_)
    refine lv_goto (tgt := 17) hx hb dX4_resync_13 (by decide) ?_
    refine lv_istore_n (lv' := [(2, .int (nI p)), (0, .ref (a 0)), (1, .int (nI nd))]) hx hb dX4_resync_17 rfl hl (by decide) rfl (fun ls hl => ?_)
    refine lv_aload_n hx hb dX4_resync_18 rfl (lv_at hl 1 rfl) ?_
    refine lv_aload_n hx hb dX4_resync_19 rfl (lv_at hl 1 rfl) ?_
    refine lv_iload_n hx hb dX4_resync_20 rfl (lv_at hl 2 rfl) ?_
    refine kV_i (r := nI 1) (w2 := wM g a s) (As := [.int (nI nd)]) (b := a 0) (rest := [.ref (a 0)]) (A1 := A) hfx (c_X4_isNode l hA (s := s) (hm) (j := nd) (by omega)) (cwV 1 hts gX4_resync_X4_isNode rfl rfl rfl (by decide +kernel) ⟨by decide, by decide⟩) (va_recv hC.1 hP (ci := 4) rfl (wM_obj)) hC hP hS (fun _ h => h) rfl hl.1 rfl (Nat.le_of_ble_eq_true rfl) dX4_resync_21 ⟨Nat.le_of_ble_eq_true rfl, Nat.le_of_ble_eq_true rfl⟩ (fun H locs hP hS _ _ => ?_)
    refine k_if_ne (tgt := 31) hx hb dX4_resync_24 (by decide) (by omega) (fun c24 => ?_) (fun c24 => ?_)
    · skip
      refine lv_aload_n hx hb dX4_resync_31 rfl (lv_at hl 1 rfl) ?_
      refine va_get (D := g.1) (C := RX4) (T := TX4) (N := 11) (ci := 4) hx hb hu4 (fun _ h => h) hown hC.1 hP _ (wM_obj) rfl 4 (by decide) (hts (.fieldLink RX4 13 "SplicedChainModel" "failed" "[Z") (by decide +kernel)) (fun _ h9 => h9) rfl dX4_resync_32 ?_
      refine lv_iload_n hx hb dX4_resync_35 rfl (lv_at hl 2 rfl) ?_
      refine k_zald hx hb hC hP _ (wM_failed) (j := nd) (by omega) (by omega) dX4_resync_36 ?_
      refine k_if_ne (tgt := 75) hx hb dX4_resync_37 (by decide) (by omega) (fun c37 => ?_) (fun c37 => ?_)
      · exfalso; omega
      · skip
        refine lv_iload_n hx hb dX4_resync_40 rfl (lv_at hl 0 rfl) ?_
        refine lv_aload_n hx hb dX4_resync_41 rfl (lv_at hl 1 rfl) ?_
        refine va_get (D := g.1) (C := RX4) (T := TX4) (N := 11) (ci := 4) hx hb hu4 (fun _ h => h) hown hC.1 hP _ (wM_obj) rfl 2 (by decide) (hts (.fieldLink RX4 36 "SplicedChainModel" "size" "I") (by decide +kernel)) (fun _ h9 => h9) rfl dX4_resync_42 ?_
        refine k_ic (x := 1) hx hb dX4_resync_45 (by decide) ?_
        refine k_isub (x := s 1 0 0) (y := 1) hx hb (by omega) dX4_resync_46 ?_
        refine k_icmp_eq (tgt := 75) hx hb dX4_resync_47 (by decide) (by omega) (by omega) (fun c47 => ?_) (fun c47 => ?_)
        · exfalso; omega
        · skip
          refine lv_aload_n hx hb dX4_resync_50 rfl (lv_at hl 1 rfl) ?_
          refine va_get (D := g.1) (C := RX4) (T := TX4) (N := 11) (ci := 4) hx hb hu4 (fun _ h => h) hown hC.1 hP _ (wM_obj) rfl 4 (by decide) (hts (.fieldLink RX4 13 "SplicedChainModel" "failed" "[Z") (by decide +kernel)) (fun _ h9 => h9) rfl dX4_resync_51 ?_
          refine lv_aload_n hx hb dX4_resync_54 rfl (lv_at hl 1 rfl) ?_
          refine va_get (D := g.1) (C := RX4) (T := TX4) (N := 11) (ci := 4) hx hb hu4 (fun _ h => h) hown hC.1 hP _ (wM_obj) rfl 3 (by decide) (hts (.fieldLink RX4 7 "SplicedChainModel" "chain" "[I") (by decide +kernel)) (fun _ h9 => h9) rfl dX4_resync_55 ?_
          refine lv_iload_n hx hb dX4_resync_58 rfl (lv_at hl 0 rfl) ?_
          refine k_ic (x := 1) hx hb dX4_resync_59 (by decide) ?_
          refine k_iadd (x := p) (y := 1) hx hb dX4_resync_60 ?_
          refine k_iald hx hb hC hP _ (wM_chain) (j := p + 1) (by omega) (by omega) dX4_resync_61 ?_
          refine k_zald hx hb hC hP _ (wM_failed) (j := s 0 0 (p + 1)) (by omega) (by omega) dX4_resync_62 ?_
          refine k_if_ne (tgt := 75) hx hb dX4_resync_63 (by decide) (by omega) (fun c63 => ?_) (fun c63 => ?_)
          · exfalso; omega
          · skip
            refine lv_aload_n hx hb dX4_resync_66 rfl (lv_at hl 1 rfl) ?_
            refine va_get (D := g.1) (C := RX4) (T := TX4) (N := 11) (ci := 4) hx hb hu4 (fun _ h => h) hown hC.1 hP _ (wM_obj) rfl 5 (by decide) (hts (.fieldLink RX4 17 "SplicedChainModel" "open" "[Z") (by decide +kernel)) (fun _ h9 => h9) rfl dX4_resync_67 ?_
            refine lv_iload_n hx hb dX4_resync_70 rfl (lv_at hl 2 rfl) ?_
            refine k_zald hx hb hC hP _ (wM_open) (j := nd) (by omega) (by omega) dX4_resync_71 ?_
            refine k_if_eq (tgt := 79) hx hb dX4_resync_72 (by decide) (by omega) (fun c72 => ?_) (fun c72 => ?_)
            · skip
              refine k_ic (x := 0) hx hb dX4_resync_79 (by decide) ?_
              refine kV_i (r := nI 0) (w2 := wM g a (w3 s 9 0 0 0)) (As := [.int (nI 0)]) (b := a 0) (rest := []) (A1 := A) hfx (c_X4_throwsIt_0 l (n := n) hA (s := s)) (cwV 1 hts gX4_resync_X4_throwsIt rfl rfl rfl (by decide +kernel) ⟨by decide, by decide⟩) (va_recv hC.1 hP (ci := 4) rfl (wM_obj)) hC hP hS (fun _ h => h) rfl hl.1 rfl (Nat.le_of_ble_eq_true rfl) dX4_resync_80 ⟨Nat.le_of_ble_eq_true rfl, Nat.le_of_ble_eq_true rfl⟩ (fun H locs hP hS _ _ => ?_)
              refine k_if_eq (tgt := 88) hx hb dX4_resync_83 (by decide) (by omega) (fun c83 => ?_) (fun c83 => ?_)
              · skip
                refine lv_aload_n hx hb dX4_resync_88 rfl (lv_at hl 1 rfl) ?_
                refine va_get (D := g.1) (C := RX4) (T := TX4) (N := 11) (ci := 4) hx hb hu4 (fun _ h => h) hown hC.1 hP _ (wM_obj) rfl 5 (by decide) (hts (.fieldLink RX4 17 "SplicedChainModel" "open" "[Z") (by decide +kernel)) (fun _ h9 => h9) rfl dX4_resync_89 ?_
                refine lv_iload_n hx hb dX4_resync_92 rfl (lv_at hl 2 rfl) ?_
                refine k_ic (x := 1) hx hb dX4_resync_93 (by decide) ?_
                refine k_zast hx hb hC hP hA.M hS _ (wM_open) (j := nd) (by omega) (by omega) (by decide) dX4_resync_94 wpM_open (fun H locs hP hS => ?_)
                refine lv_aload_n hx hb dX4_resync_95 rfl (lv_at hl 1 rfl) ?_
                refine va_get (D := g.1) (C := RX4) (T := TX4) (N := 11) (ci := 4) hx hb hu4 (fun _ h => h) hown hC.1 hP _ (wM_obj) rfl 6 (by decide) (hts (.fieldLink RX4 20 "SplicedChainModel" "history" "[I") (by decide +kernel)) (fun _ h9 => h9) rfl dX4_resync_96 ?_
                refine lv_iload_n hx hb dX4_resync_99 rfl (lv_at hl 2 rfl) ?_
                refine k_iald hx hb hC hP _ (wM_history) (j := nd) (by omega) (by omega) dX4_resync_100 ?_
                refine k_as (x := s 4 0 nd) (by simp [w3]) ?_
                refine lv_aload_n hx hb dX4_resync_101 rfl (lv_at hl 1 rfl) ?_
                refine va_get (D := g.1) (C := RX4) (T := TX4) (N := 11) (ci := 4) hx hb hu4 (fun _ h => h) hown hC.1 hP _ (wM_obj) rfl 6 (by decide) (hts (.fieldLink RX4 20 "SplicedChainModel" "history" "[I") (by decide +kernel)) (fun _ h9 => h9) rfl dX4_resync_102 ?_
                refine lv_aload_n hx hb dX4_resync_105 rfl (lv_at hl 1 rfl) ?_
                refine va_get (D := g.1) (C := RX4) (T := TX4) (N := 11) (ci := 4) hx hb hu4 (fun _ h => h) hown hC.1 hP _ (wM_obj) rfl 3 (by decide) (hts (.fieldLink RX4 7 "SplicedChainModel" "chain" "[I") (by decide +kernel)) (fun _ h9 => h9) rfl dX4_resync_106 ?_
                refine lv_iload_n hx hb dX4_resync_109 rfl (lv_at hl 0 rfl) ?_
                refine k_ic (x := 1) hx hb dX4_resync_110 (by decide) ?_
                refine k_iadd (x := p) (y := 1) hx hb dX4_resync_111 ?_
                refine k_iald hx hb hC hP _ (wM_chain) (j := p + 1) (by omega) (by omega) dX4_resync_112 ?_
                refine k_as (x := s 0 0 (p + 1)) (by simp [w3]) ?_
                refine k_iald hx hb hC hP _ (wM_history) (j := s 0 0 (p + 1)) (by omega) (by omega) dX4_resync_113 ?_
                refine k_as (x := s 4 0 (s 0 0 (p + 1))) (by simp [w3]) ?_
                refine k_isub (x := s 4 0 nd) (y := s 4 0 (s 0 0 (p + 1))) hx hb (by omega) dX4_resync_114 ?_
                exact k_iret hx hb hr hlk (by rfl) hP hS dX4_resync_115
              · exfalso; omega
            · exfalso; omega
    · exfalso; omega
set_option maxHeartbeats 4000000 in
set_option maxRecDepth 100000 in
/-- replied -/
theorem c_X4_replied (l : Launch) {g : GG} {a : Nat → Nat} {n : Nat} {A : Nat → Prop} (hA : Ap A a 8) {s : CS} {x : Int32}  : Met l yX4_replied wsX4_replied ({ frames := 0, cells := 0, slots := 0, locals := 0 }) (pC g [.ref (a 0), .int (x)] (wM g a s)) (qI g (nI (if 1 ≤ x ∧ x ≤ nI (s 8 0 0) then 1 else 0)) (wM g a (w3 s 9 0 0 0)) A) 0 0 A := by
  refine k_start (cc := cX4_replied) (maxL := 2) (ret := (some .boolean)) (by decide) rfl (Nat.le_of_ble_eq_true rfl) ?_
  intro pr en s0 m args below meth cd hx hb hml hr hlk hts hown hin hC hP ls hl
  have hS : va_S A s0.heap s0.heap [] := va_S.rf
  have hfx : CallFix pr m cd cX4_replied 2 s0 args wsX4_replied RX4 := ⟨hx, hb, hml, hown, hts⟩
  have hu4 : ∀ w ∈ wsX40, w.before args s0 = true := fun w h => hts w ((by decide +kernel : ∀ w ∈ wsX40, w ∈ wsX4_replied) w h)
  have hl : lv_has ls 2 [(0, .ref (a 0)), (1, .int (x))] := hl
  refine lv_aload_n hx hb dX4_replied_0 rfl (lv_at hl 0 rfl) ?_
  refine k_ic (x := 0) hx hb dX4_replied_1 (by decide) ?_
  refine va_put (D := g.1) (v := .int (nI 0)) (ty := .int) (C := RX4) (T := TX4) (N := 11) (ci := 4) hx hb hu4 (fun _ h => h) tyX4 tyX4_ok nmX4 hown hC.1 hP hA.M hS _ (wM_obj) rfl 1 (by decide) (hts (.fieldLink RX4 39 "SplicedChainModel" "thrown" "I") (by decide +kernel)) (fun _ h9 => h9) rfl (by decide +kernel) rfl rfl (Nat.le_of_ble_eq_true rfl) dX4_replied_2 (fun H locs hP _ hS => ?_)
  have hP : va_P g.1 vwCl (wM g a (w3 s 9 0 0 0)) H := P_eq wpM_thrown hP
  refine lv_iload_n hx hb dX4_replied_5 rfl (lv_at hl 1 rfl) ?_
  refine k_ic (x := 1) hx hb dX4_replied_6 (by decide) ?_
  refine lv_icmp_lt (tgt := 22) hx hb dX4_replied_7 (by decide) (fun c7 => ?_) (fun c7 => ?_)
  · skip
    have f1 : ¬ (1 ≤ x ∧ x ≤ nI (s 8 0 0)) := fun q => absurd q.1 (Int32.not_le.mpr c7)
    refine k_ic (x := 0) hx hb dX4_replied_22 (by decide) ?_
    exact k_zret hx hb hr hlk (by first | rw [if_pos f1] | rw [if_neg f1]) (by decide) hP hS dX4_replied_23
  · skip
    refine lv_iload_n hx hb dX4_replied_10 rfl (lv_at hl 1 rfl) ?_
    refine lv_aload_n hx hb dX4_replied_11 rfl (lv_at hl 0 rfl) ?_
    refine va_get (D := g.1) (C := RX4) (T := TX4) (N := 11) (ci := 4) hx hb hu4 (fun _ h => h) hown hC.1 hP _ (wM_obj) rfl 10 (by decide) (hts (.fieldLink RX4 50 "SplicedChainModel" "replies" "I") (by decide +kernel)) (fun _ h9 => h9) rfl dX4_replied_12 ?_
    refine k_as (x := s 8 0 0) (by simp [w3]) ?_
    refine lv_icmp_gt (tgt := 22) hx hb dX4_replied_15 (by decide) (fun c15 => ?_) (fun c15 => ?_)
    · skip
      have f1 : ¬ (1 ≤ x ∧ x ≤ nI (s 8 0 0)) := fun q => absurd q.2 (Int32.not_le.mpr c15)
      refine k_ic (x := 0) hx hb dX4_replied_22 (by decide) ?_
      exact k_zret hx hb hr hlk (by first | rw [if_pos f1] | rw [if_neg f1]) (by decide) hP hS dX4_replied_23
    · skip
      have f1 : 1 ≤ x ∧ x ≤ nI (s 8 0 0) := ⟨Int32.not_lt.mp c7, Int32.not_lt.mp c15⟩
      refine k_ic (x := 1) hx hb dX4_replied_18 (by decide) ?_
      refine lv_goto (tgt := 23) hx hb dX4_replied_19 (by decide) ?_
      exact k_zret hx hb hr hlk (by first | rw [if_pos f1] | rw [if_neg f1]) (by decide) hP hS dX4_replied_23
set_option maxHeartbeats 4000000 in
set_option maxRecDepth 100000 in
/-- head -/
theorem c_X4_head (l : Launch) {g : GG} {a : Nat → Nat} {n : Nat} {A : Nat → Prop} (hA : Ap A a 8) {s : CS}   : Met l yX4_head wsX4_head ({ frames := 1, cells := 0, slots := 0, locals := 20 }) (pC g [.ref (a 0)] (wM g a s)) (qI g (nI (s 0 0 0)) (wM g a (w3 s 9 0 0 0)) A) 0 0 A := by
  refine k_start (cc := cX4_head) (maxL := 1) (ret := (some .int)) (by decide) rfl (Nat.le_of_ble_eq_true rfl) ?_
  intro pr en s0 m args below meth cd hx hb hml hr hlk hts hown hin hC hP ls hl
  have hS : va_S A s0.heap s0.heap [] := va_S.rf
  have hfx : CallFix pr m cd cX4_head 1 s0 args wsX4_head RX4 := ⟨hx, hb, hml, hown, hts⟩
  have hu4 : ∀ w ∈ wsX40, w.before args s0 = true := fun w h => hts w ((by decide +kernel : ∀ w ∈ wsX40, w ∈ wsX4_head) w h)
  have hl : lv_has ls 1 [(0, .ref (a 0))] := hl
  refine lv_aload_n hx hb dX4_head_0 rfl (lv_at hl 0 rfl) ?_
  refine k_ic (x := 0) hx hb dX4_head_1 (by decide) ?_
  refine va_put (D := g.1) (v := .int (nI 0)) (ty := .int) (C := RX4) (T := TX4) (N := 11) (ci := 4) hx hb hu4 (fun _ h => h) tyX4 tyX4_ok nmX4 hown hC.1 hP hA.M hS _ (wM_obj) rfl 1 (by decide) (hts (.fieldLink RX4 39 "SplicedChainModel" "thrown" "I") (by decide +kernel)) (fun _ h9 => h9) rfl (by decide +kernel) rfl rfl (Nat.le_of_ble_eq_true rfl) dX4_head_2 (fun H locs hP _ hS => ?_)
  have hP : va_P g.1 vwCl (wM g a (w3 s 9 0 0 0)) H := P_eq wpM_thrown hP
  refine lv_aload_n hx hb dX4_head_5 rfl (lv_at hl 0 rfl) ?_
  refine kV_i (r := nI (s 0 0 0)) (w2 := wM g a (w3 s 9 0 0 0)) (As := []) (b := a 0) (rest := []) (A1 := A) hfx (c_X4_first l (n := n) hA (s := (w3 s 9 0 0 0)) (x := s 0 0 0) (by simp [w3])) (cwV 0 hts gX4_head_X4_first rfl rfl rfl (by decide +kernel) ⟨by decide, by decide⟩) (va_recv hC.1 hP (ci := 4) rfl (wM_obj)) hC hP hS (fun _ h => h) rfl hl.1 rfl (Nat.le_of_ble_eq_true rfl) dX4_head_6 ⟨Nat.le_of_ble_eq_true rfl, Nat.le_of_ble_eq_true rfl⟩ (fun H locs hP hS _ _ => ?_)
  exact k_iret hx hb hr hlk (by rfl) hP hS dX4_head_9
set_option maxHeartbeats 4000000 in
set_option maxRecDepth 100000 in
/-- tail -/
theorem c_X4_tail (l : Launch) {g : GG} {a : Nat → Nat} {n : Nat} {A : Nat → Prop} (hA : Ap A a 8) {s : CS} (hm : Mh n s)   : Met l yX4_tail wsX4_tail ({ frames := 1, cells := 0, slots := 0, locals := 20 }) (pC g [.ref (a 0)] (wM g a s)) (qI g (nI (s 0 0 (s 1 0 0 - 1))) (wM g a (w3 s 9 0 0 0)) A) 0 0 A := by
  refine k_start (cc := cX4_tail) (maxL := 1) (ret := (some .int)) (by decide) rfl (Nat.le_of_ble_eq_true rfl) ?_
  intro pr en s0 m args below meth cd hx hb hml hr hlk hts hown hin hC hP ls hl
  have hS : va_S A s0.heap s0.heap [] := va_S.rf
  have hfx : CallFix pr m cd cX4_tail 1 s0 args wsX4_tail RX4 := ⟨hx, hb, hml, hown, hts⟩
  have hu4 : ∀ w ∈ wsX40, w.before args s0 = true := fun w h => hts w ((by decide +kernel : ∀ w ∈ wsX40, w ∈ wsX4_tail) w h)
  have hl : lv_has ls 1 [(0, .ref (a 0))] := hl
  have m0 := hm.1
  have m1 := hm.2.1
  refine lv_aload_n hx hb dX4_tail_0 rfl (lv_at hl 0 rfl) ?_
  refine k_ic (x := 0) hx hb dX4_tail_1 (by decide) ?_
  refine va_put (D := g.1) (v := .int (nI 0)) (ty := .int) (C := RX4) (T := TX4) (N := 11) (ci := 4) hx hb hu4 (fun _ h => h) tyX4 tyX4_ok nmX4 hown hC.1 hP hA.M hS _ (wM_obj) rfl 1 (by decide) (hts (.fieldLink RX4 39 "SplicedChainModel" "thrown" "I") (by decide +kernel)) (fun _ h9 => h9) rfl (by decide +kernel) rfl rfl (Nat.le_of_ble_eq_true rfl) dX4_tail_2 (fun H locs hP _ hS => ?_)
  have hP : va_P g.1 vwCl (wM g a (w3 s 9 0 0 0)) H := P_eq wpM_thrown hP
  refine lv_aload_n hx hb dX4_tail_5 rfl (lv_at hl 0 rfl) ?_
  refine kV_i (r := nI (s 0 0 (s 1 0 0 - 1))) (w2 := wM g a (w3 s 9 0 0 0)) (As := []) (b := a 0) (rest := []) (A1 := A) hfx (c_X4_last l (n := n) hA (s := (w3 s 9 0 0 0)) (L := s 1 0 0) (x := s 0 0 (s 1 0 0 - 1)) (by simp [w3]) (by simp [w3]) (by omega)) (cwV 0 hts gX4_tail_X4_last rfl rfl rfl (by decide +kernel) ⟨by decide, by decide⟩) (va_recv hC.1 hP (ci := 4) rfl (wM_obj)) hC hP hS (fun _ h => h) rfl hl.1 rfl (Nat.le_of_ble_eq_true rfl) dX4_tail_6 ⟨Nat.le_of_ble_eq_true rfl, Nat.le_of_ble_eq_true rfl⟩ (fun H locs hP hS _ _ => ?_)
  exact k_iret hx hb hr hlk (by rfl) hP hS dX4_tail_9
set_option maxHeartbeats 4000000 in
set_option maxRecDepth 100000 in
/-- valueAt -/
theorem c_X4_valueAt (l : Launch) {g : GG} {a : Nat → Nat} {n : Nat} {A : Nat → Prop} (hA : Ap A a 8) {s : CS} (hm : Mh n s) {nd j : Nat} (hnd : nd < n) (hj : j < 8) : Met l yX4_valueAt wsX4_valueAt ({ frames := 1, cells := 0, slots := 0, locals := 24 }) (pC g [.ref (a 0), .int (nI nd), .int (nI j)] (wM g a s)) (qI g (nI (valF (w3 s 9 0 0 0) nd j (s 4 0 nd))) (wM g a (w3 s 9 0 0 0)) A) 0 0 A := by
  refine k_start (cc := cX4_valueAt) (maxL := 3) (ret := (some .int)) (by decide) rfl (Nat.le_of_ble_eq_true rfl) ?_
  intro pr en s0 m args below meth cd hx hb hml hr hlk hts hown hin hC hP ls hl
  have hS : va_S A s0.heap s0.heap [] := va_S.rf
  have hfx : CallFix pr m cd cX4_valueAt 3 s0 args wsX4_valueAt RX4 := ⟨hx, hb, hml, hown, hts⟩
  have hu4 : ∀ w ∈ wsX40, w.before args s0 = true := fun w h => hts w ((by decide +kernel : ∀ w ∈ wsX40, w ∈ wsX4_valueAt) w h)
  have hl : lv_has ls 3 [(0, .ref (a 0)), (1, .int (nI nd)), (2, .int (nI j))] := hl
  have m0 := hm.1
  have m1 := hm.2.1
  refine lv_aload_n hx hb dX4_valueAt_0 rfl (lv_at hl 0 rfl) ?_
  refine lv_aload_n hx hb dX4_valueAt_1 rfl (lv_at hl 0 rfl) ?_
  refine lv_iload_n hx hb dX4_valueAt_2 rfl (lv_at hl 1 rfl) ?_
  refine kV_i (r := nI 1) (w2 := wM g a s) (As := [.int (nI nd)]) (b := a 0) (rest := [.ref (a 0)]) (A1 := A) hfx (c_X4_isNode l hA (s := s) (hm) (j := nd) (by omega)) (cwV 1 hts gX4_valueAt_X4_isNode rfl rfl rfl (by decide +kernel) ⟨by decide, by decide⟩) (va_recv hC.1 hP (ci := 4) rfl (wM_obj)) hC hP hS (fun _ h => h) rfl hl.1 rfl (Nat.le_of_ble_eq_true rfl) dX4_valueAt_3 ⟨Nat.le_of_ble_eq_true rfl, Nat.le_of_ble_eq_true rfl⟩ (fun H locs hP hS _ _ => ?_)
  refine k_if_eq (tgt := 23) hx hb dX4_valueAt_6 (by decide) (by omega) (fun c6 => ?_) (fun c6 => ?_)
  · exfalso; omega
  · skip
    refine lv_iload_n hx hb dX4_valueAt_9 rfl (lv_at hl 2 rfl) ?_
    refine lv_if_lt (tgt := 23) hx hb dX4_valueAt_10 (by decide) (fun c10 => ?_) (fun c10 => ?_)
    · exact absurd c10 (nI_pos (by omega))
    · skip
      refine lv_iload_n hx hb dX4_valueAt_13 rfl (lv_at hl 2 rfl) ?_
      refine k_bi (x := 7) hx hb dX4_valueAt_14 (by decide) ?_
      refine k_icmp_gt (tgt := 23) hx hb dX4_valueAt_16 (by decide) (by omega) (by omega) (fun c16 => ?_) (fun c16 => ?_)
      · exfalso; omega
      · skip
        refine k_ic (x := 0) hx hb dX4_valueAt_19 (by decide) ?_
        refine lv_goto (tgt := 24) hx hb dX4_valueAt_20 (by decide) ?_
        refine kV_i (r := nI 0) (w2 := wM g a (w3 s 9 0 0 0)) (As := [.int (nI 0)]) (b := a 0) (rest := []) (A1 := A) hfx (c_X4_throwsIt_0 l (n := n) hA (s := s)) (cwV 1 hts gX4_valueAt_X4_throwsIt rfl rfl rfl (by decide +kernel) ⟨by decide, by decide⟩) (va_recv hC.1 hP (ci := 4) rfl (wM_obj)) hC hP hS (fun _ h => h) rfl hl.1 rfl (Nat.le_of_ble_eq_true rfl) dX4_valueAt_24 ⟨Nat.le_of_ble_eq_true rfl, Nat.le_of_ble_eq_true rfl⟩ (fun H locs hP hS _ _ => ?_)
        refine k_if_eq (tgt := 32) hx hb dX4_valueAt_27 (by decide) (by omega) (fun c27 => ?_) (fun c27 => ?_)
        · skip
          refine lv_aload_n hx hb dX4_valueAt_32 rfl (lv_at hl 0 rfl) ?_
          refine lv_iload_n hx hb dX4_valueAt_33 rfl (lv_at hl 1 rfl) ?_
          refine lv_iload_n hx hb dX4_valueAt_34 rfl (lv_at hl 2 rfl) ?_
          refine kV_i (r := nI (valF (w3 s 9 0 0 0) nd j ((w3 s 9 0 0 0) 4 0 nd))) (w2 := wM g a (w3 s 9 0 0 0)) (As := [.int (nI nd), .int (nI j)]) (b := a 0) (rest := []) (A1 := A) hfx (c_X4_valueOf l hA (s := (w3 s 9 0 0 0)) (hm.m9) (nd := nd) (k := j) (by omega) (by omega)) (cwV 2 hts gX4_valueAt_X4_valueOf rfl rfl rfl (by decide +kernel) ⟨by decide, by decide⟩) (va_recv hC.1 hP (ci := 4) rfl (wM_obj)) hC hP hS (fun _ h => h) rfl hl.1 rfl (Nat.le_of_ble_eq_true rfl) dX4_valueAt_35 ⟨Nat.le_of_ble_eq_true rfl, Nat.le_of_ble_eq_true rfl⟩ (fun H locs hP hS _ _ => ?_)
          exact k_iret hx hb hr hlk (by simp [w3]) hP hS dX4_valueAt_38
        · exfalso; omega
set_option maxHeartbeats 4000000 in
set_option maxRecDepth 100000 in
/-- valueAt: no node -/
theorem c_X4_valueAt_1 (l : Launch) {g : GG} {a : Nat → Nat} {n : Nat} {A : Nat → Prop} (hA : Ap A a 8) {s : CS} (hm : Mh n s) {x y : Int32} (hbad : x < 0 ∨ nI n ≤ x) : Met l yX4_valueAt wsX4_valueAt ({ frames := 1, cells := 0, slots := 0, locals := 24 }) (pC g [.ref (a 0), .int (x), .int (y)] (wM g a s)) (qI g (nI 0) (wM g a (w3 s 9 0 0 1)) A) 0 0 A := by
  refine k_start (cc := cX4_valueAt) (maxL := 3) (ret := (some .int)) (by decide) rfl (Nat.le_of_ble_eq_true rfl) ?_
  intro pr en s0 m args below meth cd hx hb hml hr hlk hts hown hin hC hP ls hl
  have hS : va_S A s0.heap s0.heap [] := va_S.rf
  have hfx : CallFix pr m cd cX4_valueAt 3 s0 args wsX4_valueAt RX4 := ⟨hx, hb, hml, hown, hts⟩
  have hu4 : ∀ w ∈ wsX40, w.before args s0 = true := fun w h => hts w ((by decide +kernel : ∀ w ∈ wsX40, w ∈ wsX4_valueAt) w h)
  have hl : lv_has ls 3 [(0, .ref (a 0)), (1, .int (x)), (2, .int (y))] := hl
  have m0 := hm.1
  have m1 := hm.2.1
  refine lv_aload_n hx hb dX4_valueAt_0 rfl (lv_at hl 0 rfl) ?_
  refine lv_aload_n hx hb dX4_valueAt_1 rfl (lv_at hl 0 rfl) ?_
  refine lv_iload_n hx hb dX4_valueAt_2 rfl (lv_at hl 1 rfl) ?_
  refine kV_i (r := nI 0) (w2 := wM g a s) (As := [.int (x)]) (b := a 0) (rest := [.ref (a 0)]) (A1 := A) hfx (c_X4_isNode_no l hA (s := s) (hm) (x := x) hbad) (cwV 1 hts gX4_valueAt_X4_isNode rfl rfl rfl (by decide +kernel) ⟨by decide, by decide⟩) (va_recv hC.1 hP (ci := 4) rfl (wM_obj)) hC hP hS (fun _ h => h) rfl hl.1 rfl (Nat.le_of_ble_eq_true rfl) dX4_valueAt_3 ⟨Nat.le_of_ble_eq_true rfl, Nat.le_of_ble_eq_true rfl⟩ (fun H locs hP hS _ _ => ?_)
  refine k_if_eq (tgt := 23) hx hb dX4_valueAt_6 (by decide) (by omega) (fun c6 => ?_) (fun c6 => ?_)
  · skip
    refine k_ic (x := 1) hx hb dX4_valueAt_23 (by decide) ?_
    refine kV_i (r := nI 1) (w2 := wM g a (w3 s 9 0 0 1)) (As := [.int (nI 1)]) (b := a 0) (rest := []) (A1 := A) hfx (c_X4_throwsIt l (n := n) hA (s := s) (c := 1) (by decide)) (cwV 1 hts gX4_valueAt_X4_throwsIt rfl rfl rfl (by decide +kernel) ⟨by decide, by decide⟩) (va_recv hC.1 hP (ci := 4) rfl (wM_obj)) hC hP hS (fun _ h => h) rfl hl.1 rfl (Nat.le_of_ble_eq_true rfl) dX4_valueAt_24 ⟨Nat.le_of_ble_eq_true rfl, Nat.le_of_ble_eq_true rfl⟩ (fun H locs hP hS _ _ => ?_)
    refine k_if_eq (tgt := 32) hx hb dX4_valueAt_27 (by decide) (by omega) (fun c27 => ?_) (fun c27 => ?_)
    · exfalso; omega
    · skip
      refine k_ic (x := 0) hx hb dX4_valueAt_30 (by decide) ?_
      exact k_iret hx hb hr hlk (by rfl) hP hS dX4_valueAt_31
  · exfalso; omega
set_option maxHeartbeats 4000000 in
set_option maxRecDepth 100000 in
/-- valueAt: no key -/
theorem c_X4_valueAt_1k (l : Launch) {g : GG} {a : Nat → Nat} {n : Nat} {A : Nat → Prop} (hA : Ap A a 8) {s : CS} (hm : Mh n s) {nd : Nat} {x : Int32} (hnd : nd < n) (hbadk : x < 0 ∨ nI 8 ≤ x) : Met l yX4_valueAt wsX4_valueAt ({ frames := 1, cells := 0, slots := 0, locals := 24 }) (pC g [.ref (a 0), .int (nI nd), .int (x)] (wM g a s)) (qI g (nI 0) (wM g a (w3 s 9 0 0 1)) A) 0 0 A := by
  refine k_start (cc := cX4_valueAt) (maxL := 3) (ret := (some .int)) (by decide) rfl (Nat.le_of_ble_eq_true rfl) ?_
  intro pr en s0 m args below meth cd hx hb hml hr hlk hts hown hin hC hP ls hl
  have hS : va_S A s0.heap s0.heap [] := va_S.rf
  have hfx : CallFix pr m cd cX4_valueAt 3 s0 args wsX4_valueAt RX4 := ⟨hx, hb, hml, hown, hts⟩
  have hu4 : ∀ w ∈ wsX40, w.before args s0 = true := fun w h => hts w ((by decide +kernel : ∀ w ∈ wsX40, w ∈ wsX4_valueAt) w h)
  have hl : lv_has ls 3 [(0, .ref (a 0)), (1, .int (nI nd)), (2, .int (x))] := hl
  have m0 := hm.1
  have m1 := hm.2.1
  refine lv_aload_n hx hb dX4_valueAt_0 rfl (lv_at hl 0 rfl) ?_
  refine lv_aload_n hx hb dX4_valueAt_1 rfl (lv_at hl 0 rfl) ?_
  refine lv_iload_n hx hb dX4_valueAt_2 rfl (lv_at hl 1 rfl) ?_
  refine kV_i (r := nI 1) (w2 := wM g a s) (As := [.int (nI nd)]) (b := a 0) (rest := [.ref (a 0)]) (A1 := A) hfx (c_X4_isNode l hA (s := s) (hm) (j := nd) (by omega)) (cwV 1 hts gX4_valueAt_X4_isNode rfl rfl rfl (by decide +kernel) ⟨by decide, by decide⟩) (va_recv hC.1 hP (ci := 4) rfl (wM_obj)) hC hP hS (fun _ h => h) rfl hl.1 rfl (Nat.le_of_ble_eq_true rfl) dX4_valueAt_3 ⟨Nat.le_of_ble_eq_true rfl, Nat.le_of_ble_eq_true rfl⟩ (fun H locs hP hS _ _ => ?_)
  refine k_if_eq (tgt := 23) hx hb dX4_valueAt_6 (by decide) (by omega) (fun c6 => ?_) (fun c6 => ?_)
  · exfalso; omega
  · skip
    refine lv_iload_n hx hb dX4_valueAt_9 rfl (lv_at hl 2 rfl) ?_
    refine lv_if_lt (tgt := 23) hx hb dX4_valueAt_10 (by decide) (fun c10 => ?_) (fun c10 => ?_)
    · skip
      refine k_ic (x := 1) hx hb dX4_valueAt_23 (by decide) ?_
      refine kV_i (r := nI 1) (w2 := wM g a (w3 s 9 0 0 1)) (As := [.int (nI 1)]) (b := a 0) (rest := []) (A1 := A) hfx (c_X4_throwsIt l (n := n) hA (s := s) (c := 1) (by decide)) (cwV 1 hts gX4_valueAt_X4_throwsIt rfl rfl rfl (by decide +kernel) ⟨by decide, by decide⟩) (va_recv hC.1 hP (ci := 4) rfl (wM_obj)) hC hP hS (fun _ h => h) rfl hl.1 rfl (Nat.le_of_ble_eq_true rfl) dX4_valueAt_24 ⟨Nat.le_of_ble_eq_true rfl, Nat.le_of_ble_eq_true rfl⟩ (fun H locs hP hS _ _ => ?_)
      refine k_if_eq (tgt := 32) hx hb dX4_valueAt_27 (by decide) (by omega) (fun c27 => ?_) (fun c27 => ?_)
      · exfalso; omega
      · skip
        refine k_ic (x := 0) hx hb dX4_valueAt_30 (by decide) ?_
        exact k_iret hx hb hr hlk (by rfl) hP hS dX4_valueAt_31
    · skip
      refine lv_iload_n hx hb dX4_valueAt_13 rfl (lv_at hl 2 rfl) ?_
      refine k_bi (x := 7) hx hb dX4_valueAt_14 (by decide) ?_
      refine lv_icmp_gt (tgt := 23) hx hb dX4_valueAt_16 (by decide) (fun c16 => ?_) (fun c16 => ?_)
      · skip
        refine k_ic (x := 1) hx hb dX4_valueAt_23 (by decide) ?_
        refine kV_i (r := nI 1) (w2 := wM g a (w3 s 9 0 0 1)) (As := [.int (nI 1)]) (b := a 0) (rest := []) (A1 := A) hfx (c_X4_throwsIt l (n := n) hA (s := s) (c := 1) (by decide)) (cwV 1 hts gX4_valueAt_X4_throwsIt rfl rfl rfl (by decide +kernel) ⟨by decide, by decide⟩) (va_recv hC.1 hP (ci := 4) rfl (wM_obj)) hC hP hS (fun _ h => h) rfl hl.1 rfl (Nat.le_of_ble_eq_true rfl) dX4_valueAt_24 ⟨Nat.le_of_ble_eq_true rfl, Nat.le_of_ble_eq_true rfl⟩ (fun H locs hP hS _ _ => ?_)
        refine k_if_eq (tgt := 32) hx hb dX4_valueAt_27 (by decide) (by omega) (fun c27 => ?_) (fun c27 => ?_)
        · exfalso; omega
        · skip
          refine k_ic (x := 0) hx hb dX4_valueAt_30 (by decide) ?_
          exact k_iret hx hb hr hlk (by rfl) hP hS dX4_valueAt_31
      · exact absurd (Int32.not_lt.mp c16) (k78 (hbadk.resolve_left c10))
set_option maxHeartbeats 4000000 in
set_option maxRecDepth 100000 in
/-- history: no node -/
theorem c_X4_history_1 (l : Launch) {g : GG} {a : Nat → Nat} {n : Nat} {A : Nat → Prop} (hA : Ap A a 8) {s : CS} (hm : Mh n s) {x : Int32} (hbad : x < 0 ∨ nI n ≤ x) : Met l yX4_history wsX4_history ({ frames := 1, cells := 0, slots := 0, locals := 21 }) (pC g [.ref (a 0), .int (x)] (wM g a s)) (qI g (nI 0) (wM g a (w3 s 9 0 0 1)) A) 0 0 A := by
  refine k_start (cc := cX4_history) (maxL := 2) (ret := (some .int)) (by decide) rfl (Nat.le_of_ble_eq_true rfl) ?_
  intro pr en s0 m args below meth cd hx hb hml hr hlk hts hown hin hC hP ls hl
  have hS : va_S A s0.heap s0.heap [] := va_S.rf
  have hfx : CallFix pr m cd cX4_history 2 s0 args wsX4_history RX4 := ⟨hx, hb, hml, hown, hts⟩
  have hu4 : ∀ w ∈ wsX40, w.before args s0 = true := fun w h => hts w ((by decide +kernel : ∀ w ∈ wsX40, w ∈ wsX4_history) w h)
  have hl : lv_has ls 2 [(0, .ref (a 0)), (1, .int (x))] := hl
  have m0 := hm.1
  have m1 := hm.2.1
  refine lv_aload_n hx hb dX4_history_0 rfl (lv_at hl 0 rfl) ?_
  refine lv_aload_n hx hb dX4_history_1 rfl (lv_at hl 0 rfl) ?_
  refine lv_iload_n hx hb dX4_history_2 rfl (lv_at hl 1 rfl) ?_
  refine kV_i (r := nI 0) (w2 := wM g a s) (As := [.int (x)]) (b := a 0) (rest := [.ref (a 0)]) (A1 := A) hfx (c_X4_isNode_no l hA (s := s) (hm) (x := x) hbad) (cwV 1 hts gX4_history_X4_isNode rfl rfl rfl (by decide +kernel) ⟨by decide, by decide⟩) (va_recv hC.1 hP (ci := 4) rfl (wM_obj)) hC hP hS (fun _ h => h) rfl hl.1 rfl (Nat.le_of_ble_eq_true rfl) dX4_history_3 ⟨Nat.le_of_ble_eq_true rfl, Nat.le_of_ble_eq_true rfl⟩ (fun H locs hP hS _ _ => ?_)
  refine k_if_eq (tgt := 13) hx hb dX4_history_6 (by decide) (by omega) (fun c6 => ?_) (fun c6 => ?_)
  · skip
    refine k_ic (x := 1) hx hb dX4_history_13 (by decide) ?_
    refine kV_i (r := nI 1) (w2 := wM g a (w3 s 9 0 0 1)) (As := [.int (nI 1)]) (b := a 0) (rest := []) (A1 := A) hfx (c_X4_throwsIt l (n := n) hA (s := s) (c := 1) (by decide)) (cwV 1 hts gX4_history_X4_throwsIt rfl rfl rfl (by decide +kernel) ⟨by decide, by decide⟩) (va_recv hC.1 hP (ci := 4) rfl (wM_obj)) hC hP hS (fun _ h => h) rfl hl.1 rfl (Nat.le_of_ble_eq_true rfl) dX4_history_14 ⟨Nat.le_of_ble_eq_true rfl, Nat.le_of_ble_eq_true rfl⟩ (fun H locs hP hS _ _ => ?_)
    refine k_if_eq (tgt := 24) hx hb dX4_history_17 (by decide) (by omega) (fun c17 => ?_) (fun c17 => ?_)
    · exfalso; omega
    · skip
      refine k_ic (x := 0) hx hb dX4_history_20 (by decide) ?_
      refine lv_goto (tgt := 30) hx hb dX4_history_21 (by decide) ?_
      exact k_iret hx hb hr hlk (by rfl) hP hS dX4_history_30
  · exfalso; omega
set_option maxHeartbeats 4000000 in
set_option maxRecDepth 100000 in
/-- sent: no node -/
theorem c_X4_sent_1 (l : Launch) {g : GG} {a : Nat → Nat} {n : Nat} {A : Nat → Prop} (hA : Ap A a 8) {s : CS} (hm : Mh n s) {x : Int32} (hbad : x < 0 ∨ nI n ≤ x) : Met l yX4_sent wsX4_sent ({ frames := 1, cells := 0, slots := 0, locals := 21 }) (pC g [.ref (a 0), .int (x)] (wM g a s)) (qI g (nI 0) (wM g a (w3 s 9 0 0 1)) A) 0 0 A := by
  refine k_start (cc := cX4_sent) (maxL := 2) (ret := (some .int)) (by decide) rfl (Nat.le_of_ble_eq_true rfl) ?_
  intro pr en s0 m args below meth cd hx hb hml hr hlk hts hown hin hC hP ls hl
  have hS : va_S A s0.heap s0.heap [] := va_S.rf
  have hfx : CallFix pr m cd cX4_sent 2 s0 args wsX4_sent RX4 := ⟨hx, hb, hml, hown, hts⟩
  have hu4 : ∀ w ∈ wsX40, w.before args s0 = true := fun w h => hts w ((by decide +kernel : ∀ w ∈ wsX40, w ∈ wsX4_sent) w h)
  have hl : lv_has ls 2 [(0, .ref (a 0)), (1, .int (x))] := hl
  have m0 := hm.1
  have m1 := hm.2.1
  refine lv_aload_n hx hb dX4_sent_0 rfl (lv_at hl 0 rfl) ?_
  refine lv_aload_n hx hb dX4_sent_1 rfl (lv_at hl 0 rfl) ?_
  refine lv_iload_n hx hb dX4_sent_2 rfl (lv_at hl 1 rfl) ?_
  refine kV_i (r := nI 0) (w2 := wM g a s) (As := [.int (x)]) (b := a 0) (rest := [.ref (a 0)]) (A1 := A) hfx (c_X4_isNode_no l hA (s := s) (hm) (x := x) hbad) (cwV 1 hts gX4_sent_X4_isNode rfl rfl rfl (by decide +kernel) ⟨by decide, by decide⟩) (va_recv hC.1 hP (ci := 4) rfl (wM_obj)) hC hP hS (fun _ h => h) rfl hl.1 rfl (Nat.le_of_ble_eq_true rfl) dX4_sent_3 ⟨Nat.le_of_ble_eq_true rfl, Nat.le_of_ble_eq_true rfl⟩ (fun H locs hP hS _ _ => ?_)
  refine k_if_eq (tgt := 13) hx hb dX4_sent_6 (by decide) (by omega) (fun c6 => ?_) (fun c6 => ?_)
  · skip
    refine k_ic (x := 1) hx hb dX4_sent_13 (by decide) ?_
    refine kV_i (r := nI 1) (w2 := wM g a (w3 s 9 0 0 1)) (As := [.int (nI 1)]) (b := a 0) (rest := []) (A1 := A) hfx (c_X4_throwsIt l (n := n) hA (s := s) (c := 1) (by decide)) (cwV 1 hts gX4_sent_X4_throwsIt rfl rfl rfl (by decide +kernel) ⟨by decide, by decide⟩) (va_recv hC.1 hP (ci := 4) rfl (wM_obj)) hC hP hS (fun _ h => h) rfl hl.1 rfl (Nat.le_of_ble_eq_true rfl) dX4_sent_14 ⟨Nat.le_of_ble_eq_true rfl, Nat.le_of_ble_eq_true rfl⟩ (fun H locs hP hS _ _ => ?_)
    refine k_if_eq (tgt := 24) hx hb dX4_sent_17 (by decide) (by omega) (fun c17 => ?_) (fun c17 => ?_)
    · exfalso; omega
    · skip
      refine k_ic (x := 0) hx hb dX4_sent_20 (by decide) ?_
      refine lv_goto (tgt := 37) hx hb dX4_sent_21 (by decide) ?_
      exact k_iret hx hb hr hlk (by rfl) hP hS dX4_sent_37
  · exfalso; omega
set_option maxHeartbeats 4000000 in
set_option maxRecDepth 100000 in
/-- history -/
theorem c_X4_history (l : Launch) {g : GG} {a : Nat → Nat} {n : Nat} {A : Nat → Prop} (hA : Ap A a 8) {s : CS} (hm : Mh n s) {nd : Nat} (hnd : nd < n) : Met l yX4_history wsX4_history ({ frames := 1, cells := 0, slots := 0, locals := 21 }) (pC g [.ref (a 0), .int (nI nd)] (wM g a s)) (qI g (nI (s 4 0 nd)) (wM g a (w3 s 9 0 0 0)) A) 0 0 A := by
  refine k_start (cc := cX4_history) (maxL := 2) (ret := (some .int)) (by decide) rfl (Nat.le_of_ble_eq_true rfl) ?_
  intro pr en s0 m args below meth cd hx hb hml hr hlk hts hown hin hC hP ls hl
  have hS : va_S A s0.heap s0.heap [] := va_S.rf
  have hfx : CallFix pr m cd cX4_history 2 s0 args wsX4_history RX4 := ⟨hx, hb, hml, hown, hts⟩
  have hu4 : ∀ w ∈ wsX40, w.before args s0 = true := fun w h => hts w ((by decide +kernel : ∀ w ∈ wsX40, w ∈ wsX4_history) w h)
  have hl : lv_has ls 2 [(0, .ref (a 0)), (1, .int (nI nd))] := hl
  have m0 := hm.1
  have m1 := hm.2.1
  refine lv_aload_n hx hb dX4_history_0 rfl (lv_at hl 0 rfl) ?_
  refine lv_aload_n hx hb dX4_history_1 rfl (lv_at hl 0 rfl) ?_
  refine lv_iload_n hx hb dX4_history_2 rfl (lv_at hl 1 rfl) ?_
  refine kV_i (r := nI 1) (w2 := wM g a s) (As := [.int (nI nd)]) (b := a 0) (rest := [.ref (a 0)]) (A1 := A) hfx (c_X4_isNode l hA (s := s) (hm) (j := nd) (by omega)) (cwV 1 hts gX4_history_X4_isNode rfl rfl rfl (by decide +kernel) ⟨by decide, by decide⟩) (va_recv hC.1 hP (ci := 4) rfl (wM_obj)) hC hP hS (fun _ h => h) rfl hl.1 rfl (Nat.le_of_ble_eq_true rfl) dX4_history_3 ⟨Nat.le_of_ble_eq_true rfl, Nat.le_of_ble_eq_true rfl⟩ (fun H locs hP hS _ _ => ?_)
  refine k_if_eq (tgt := 13) hx hb dX4_history_6 (by decide) (by omega) (fun c6 => ?_) (fun c6 => ?_)
  · exfalso; omega
  · skip
    refine k_ic (x := 0) hx hb dX4_history_9 (by decide) ?_
    refine lv_goto (tgt := 14) hx hb dX4_history_10 (by decide) ?_
    refine kV_i (r := nI 0) (w2 := wM g a (w3 s 9 0 0 0)) (As := [.int (nI 0)]) (b := a 0) (rest := []) (A1 := A) hfx (c_X4_throwsIt_0 l (n := n) hA (s := s)) (cwV 1 hts gX4_history_X4_throwsIt rfl rfl rfl (by decide +kernel) ⟨by decide, by decide⟩) (va_recv hC.1 hP (ci := 4) rfl (wM_obj)) hC hP hS (fun _ h => h) rfl hl.1 rfl (Nat.le_of_ble_eq_true rfl) dX4_history_14 ⟨Nat.le_of_ble_eq_true rfl, Nat.le_of_ble_eq_true rfl⟩ (fun H locs hP hS _ _ => ?_)
    refine k_if_eq (tgt := 24) hx hb dX4_history_17 (by decide) (by omega) (fun c17 => ?_) (fun c17 => ?_)
    · skip
      refine lv_aload_n hx hb dX4_history_24 rfl (lv_at hl 0 rfl) ?_
      refine va_get (D := g.1) (C := RX4) (T := TX4) (N := 11) (ci := 4) hx hb hu4 (fun _ h => h) hown hC.1 hP _ (wM_obj) rfl 6 (by decide) (hts (.fieldLink RX4 20 "SplicedChainModel" "history" "[I") (by decide +kernel)) (fun _ h9 => h9) rfl dX4_history_25 ?_
      refine lv_iload_n hx hb dX4_history_28 rfl (lv_at hl 1 rfl) ?_
      refine k_iald hx hb hC hP _ (wM_history) (j := nd) (by omega) (by omega) dX4_history_29 ?_
      refine k_as (x := s 4 0 nd) (by simp [w3]) ?_
      exact k_iret hx hb hr hlk (by rfl) hP hS dX4_history_30
    · exfalso; omega
set_option maxHeartbeats 4000000 in
set_option maxRecDepth 100000 in
/-- sent -/
theorem c_X4_sent (l : Launch) {g : GG} {a : Nat → Nat} {n : Nat} {A : Nat → Prop} (hA : Ap A a 8) {s : CS} (hm : Mh n s) {nd : Nat} (hnd : nd < n) (hle : s 5 0 nd ≤ s 4 0 nd) : Met l yX4_sent wsX4_sent ({ frames := 1, cells := 0, slots := 0, locals := 21 }) (pC g [.ref (a 0), .int (nI nd)] (wM g a s)) (qI g (nI (s 4 0 nd - s 5 0 nd)) (wM g a (w3 s 9 0 0 0)) A) 0 0 A := by
  refine k_start (cc := cX4_sent) (maxL := 2) (ret := (some .int)) (by decide) rfl (Nat.le_of_ble_eq_true rfl) ?_
  intro pr en s0 m args below meth cd hx hb hml hr hlk hts hown hin hC hP ls hl
  have hS : va_S A s0.heap s0.heap [] := va_S.rf
  have hfx : CallFix pr m cd cX4_sent 2 s0 args wsX4_sent RX4 := ⟨hx, hb, hml, hown, hts⟩
  have hu4 : ∀ w ∈ wsX40, w.before args s0 = true := fun w h => hts w ((by decide +kernel : ∀ w ∈ wsX40, w ∈ wsX4_sent) w h)
  have hl : lv_has ls 2 [(0, .ref (a 0)), (1, .int (nI nd))] := hl
  have m0 := hm.1
  have m1 := hm.2.1
  refine lv_aload_n hx hb dX4_sent_0 rfl (lv_at hl 0 rfl) ?_
  refine lv_aload_n hx hb dX4_sent_1 rfl (lv_at hl 0 rfl) ?_
  refine lv_iload_n hx hb dX4_sent_2 rfl (lv_at hl 1 rfl) ?_
  refine kV_i (r := nI 1) (w2 := wM g a s) (As := [.int (nI nd)]) (b := a 0) (rest := [.ref (a 0)]) (A1 := A) hfx (c_X4_isNode l hA (s := s) (hm) (j := nd) (by omega)) (cwV 1 hts gX4_sent_X4_isNode rfl rfl rfl (by decide +kernel) ⟨by decide, by decide⟩) (va_recv hC.1 hP (ci := 4) rfl (wM_obj)) hC hP hS (fun _ h => h) rfl hl.1 rfl (Nat.le_of_ble_eq_true rfl) dX4_sent_3 ⟨Nat.le_of_ble_eq_true rfl, Nat.le_of_ble_eq_true rfl⟩ (fun H locs hP hS _ _ => ?_)
  refine k_if_eq (tgt := 13) hx hb dX4_sent_6 (by decide) (by omega) (fun c6 => ?_) (fun c6 => ?_)
  · exfalso; omega
  · skip
    refine k_ic (x := 0) hx hb dX4_sent_9 (by decide) ?_
    refine lv_goto (tgt := 14) hx hb dX4_sent_10 (by decide) ?_
    refine kV_i (r := nI 0) (w2 := wM g a (w3 s 9 0 0 0)) (As := [.int (nI 0)]) (b := a 0) (rest := []) (A1 := A) hfx (c_X4_throwsIt_0 l (n := n) hA (s := s)) (cwV 1 hts gX4_sent_X4_throwsIt rfl rfl rfl (by decide +kernel) ⟨by decide, by decide⟩) (va_recv hC.1 hP (ci := 4) rfl (wM_obj)) hC hP hS (fun _ h => h) rfl hl.1 rfl (Nat.le_of_ble_eq_true rfl) dX4_sent_14 ⟨Nat.le_of_ble_eq_true rfl, Nat.le_of_ble_eq_true rfl⟩ (fun H locs hP hS _ _ => ?_)
    refine k_if_eq (tgt := 24) hx hb dX4_sent_17 (by decide) (by omega) (fun c17 => ?_) (fun c17 => ?_)
    · skip
      refine lv_aload_n hx hb dX4_sent_24 rfl (lv_at hl 0 rfl) ?_
      refine va_get (D := g.1) (C := RX4) (T := TX4) (N := 11) (ci := 4) hx hb hu4 (fun _ h => h) hown hC.1 hP _ (wM_obj) rfl 6 (by decide) (hts (.fieldLink RX4 20 "SplicedChainModel" "history" "[I") (by decide +kernel)) (fun _ h9 => h9) rfl dX4_sent_25 ?_
      refine lv_iload_n hx hb dX4_sent_28 rfl (lv_at hl 1 rfl) ?_
      refine k_iald hx hb hC hP _ (wM_history) (j := nd) (by omega) (by omega) dX4_sent_29 ?_
      refine k_as (x := s 4 0 nd) (by simp [w3]) ?_
      refine lv_aload_n hx hb dX4_sent_30 rfl (lv_at hl 0 rfl) ?_
      refine va_get (D := g.1) (C := RX4) (T := TX4) (N := 11) (ci := 4) hx hb hu4 (fun _ h => h) hown hC.1 hP _ (wM_obj) rfl 7 (by decide) (hts (.fieldLink RX4 23 "SplicedChainModel" "acked" "[I") (by decide +kernel)) (fun _ h9 => h9) rfl dX4_sent_31 ?_
      refine lv_iload_n hx hb dX4_sent_34 rfl (lv_at hl 1 rfl) ?_
      refine k_iald hx hb hC hP _ (wM_acked) (j := nd) (by omega) (by omega) dX4_sent_35 ?_
      refine k_as (x := s 5 0 nd) (by simp [w3]) ?_
      refine k_isub (x := s 4 0 nd) (y := s 5 0 nd) hx hb (by omega) dX4_sent_36 ?_
      exact k_iret hx hb hr hlk (by rfl) hP hS dX4_sent_37
    · exfalso; omega
set_option maxHeartbeats 4000000 in
set_option maxRecDepth 100000 in
/-- waiting: no node -/
theorem c_X4_waiting_1 (l : Launch) {g : GG} {a : Nat → Nat} {n : Nat} {A : Nat → Prop} (hA : Ap A a 8) {s : CS} (hm : Mh n s) {x : Int32} (hbad : x < 0 ∨ nI n ≤ x) : Met l yX4_waiting wsX4_waiting ({ frames := 2, cells := 0, slots := 0, locals := 45 }) (pC g [.ref (a 0), .int (x)] (wM g a s)) (qI g (nI 0) (wM g a (w3 s 9 0 0 1)) A) 0 0 A := by
  refine k_start (cc := cX4_waiting) (maxL := 2) (ret := (some .int)) (by decide) rfl (Nat.le_of_ble_eq_true rfl) ?_
  intro pr en s0 m args below meth cd hx hb hml hr hlk hts hown hin hC hP ls hl
  have hS : va_S A s0.heap s0.heap [] := va_S.rf
  have hfx : CallFix pr m cd cX4_waiting 2 s0 args wsX4_waiting RX4 := ⟨hx, hb, hml, hown, hts⟩
  have hu4 : ∀ w ∈ wsX40, w.before args s0 = true := fun w h => hts w ((by decide +kernel : ∀ w ∈ wsX40, w ∈ wsX4_waiting) w h)
  have hl : lv_has ls 2 [(0, .ref (a 0)), (1, .int (x))] := hl
  have m0 := hm.1
  have m1 := hm.2.1
  refine lv_aload_n hx hb dX4_waiting_0 rfl (lv_at hl 0 rfl) ?_
  refine lv_aload_n hx hb dX4_waiting_1 rfl (lv_at hl 0 rfl) ?_
  refine lv_iload_n hx hb dX4_waiting_2 rfl (lv_at hl 1 rfl) ?_
  refine kV_i (r := nI 0) (w2 := wM g a s) (As := [.int (x)]) (b := a 0) (rest := [.ref (a 0)]) (A1 := A) hfx (c_X4_isNode_no l hA (s := s) (hm) (x := x) hbad) (cwV 1 hts gX4_waiting_X4_isNode rfl rfl rfl (by decide +kernel) ⟨by decide, by decide⟩) (va_recv hC.1 hP (ci := 4) rfl (wM_obj)) hC hP hS (fun _ h => h) rfl hl.1 rfl (Nat.le_of_ble_eq_true rfl) dX4_waiting_3 ⟨Nat.le_of_ble_eq_true rfl, Nat.le_of_ble_eq_true rfl⟩ (fun H locs hP hS _ _ => ?_)
  refine k_if_eq (tgt := 13) hx hb dX4_waiting_6 (by decide) (by omega) (fun c6 => ?_) (fun c6 => ?_)
  · skip
    refine k_ic (x := 1) hx hb dX4_waiting_13 (by decide) ?_
    refine kV_i (r := nI 1) (w2 := wM g a (w3 s 9 0 0 1)) (As := [.int (nI 1)]) (b := a 0) (rest := []) (A1 := A) hfx (c_X4_throwsIt l (n := n) hA (s := s) (c := 1) (by decide)) (cwV 1 hts gX4_waiting_X4_throwsIt rfl rfl rfl (by decide +kernel) ⟨by decide, by decide⟩) (va_recv hC.1 hP (ci := 4) rfl (wM_obj)) hC hP hS (fun _ h => h) rfl hl.1 rfl (Nat.le_of_ble_eq_true rfl) dX4_waiting_14 ⟨Nat.le_of_ble_eq_true rfl, Nat.le_of_ble_eq_true rfl⟩ (fun H locs hP hS _ _ => ?_)
    refine k_if_eq (tgt := 24) hx hb dX4_waiting_17 (by decide) (by omega) (fun c17 => ?_) (fun c17 => ?_)
    · exfalso; omega
    · skip
      refine k_ic (x := 0) hx hb dX4_waiting_20 (by decide) ?_
      refine lv_goto (tgt := 38) hx hb dX4_waiting_21 (by decide) ?_
      exact k_iret hx hb hr hlk (by rfl) hP hS dX4_waiting_38
  · exfalso; omega
set_option maxHeartbeats 4000000 in
set_option maxRecDepth 100000 in
/-- waiting -/
theorem c_X4_waiting (l : Launch) {g : GG} {a : Nat → Nat} {n : Nat} {A : Nat → Prop} (hA : Ap A a 8) {s : CS} (hm : Mh n s) {p nd U V : Nat} (hnd : nd < n) (hp : p < s 1 0 0) (hpe : s 0 0 p = nd) (hu : ∀ k, k < s 1 0 0 → k ≠ p → s 0 0 k ≠ nd) (hle : 0 < p → s 4 0 nd ≤ s 4 0 (s 0 0 (p - 1))) (hU : (if 0 < p ∧ s 3 0 (s 0 0 (p - 1)) ≠ 0 then s 4 0 (s 0 0 (p - 1)) - s 4 0 nd else 0) = U) (hla : p + 1 < s 1 0 0 → s 5 0 nd ≤ s 5 0 (s 0 0 (p + 1))) (hV : (if p + 1 < s 1 0 0 ∧ s 3 0 nd ≠ 0 then s 5 0 (s 0 0 (p + 1)) - s 5 0 nd else 0) = V) : Met l yX4_waiting wsX4_waiting ({ frames := 2, cells := 0, slots := 0, locals := 45 }) (pC g [.ref (a 0), .int (nI nd)] (wM g a s)) (qI g (nI (U + 100 * V)) (wM g a (w3 s 9 0 0 0)) A) 0 0 A := by
  refine k_start (cc := cX4_waiting) (maxL := 2) (ret := (some .int)) (by decide) rfl (Nat.le_of_ble_eq_true rfl) ?_
  intro pr en s0 m args below meth cd hx hb hml hr hlk hts hown hin hC hP ls hl
  have hS : va_S A s0.heap s0.heap [] := va_S.rf
  have hfx : CallFix pr m cd cX4_waiting 2 s0 args wsX4_waiting RX4 := ⟨hx, hb, hml, hown, hts⟩
  have hu4 : ∀ w ∈ wsX40, w.before args s0 = true := fun w h => hts w ((by decide +kernel : ∀ w ∈ wsX40, w ∈ wsX4_waiting) w h)
  have hl : lv_has ls 2 [(0, .ref (a 0)), (1, .int (nI nd))] := hl
  have m0 := hm.1
  have m1 := hm.2.1
  refine lv_aload_n hx hb dX4_waiting_0 rfl (lv_at hl 0 rfl) ?_
  refine lv_aload_n hx hb dX4_waiting_1 rfl (lv_at hl 0 rfl) ?_
  refine lv_iload_n hx hb dX4_waiting_2 rfl (lv_at hl 1 rfl) ?_
  refine kV_i (r := nI 1) (w2 := wM g a s) (As := [.int (nI nd)]) (b := a 0) (rest := [.ref (a 0)]) (A1 := A) hfx (c_X4_isNode l hA (s := s) (hm) (j := nd) (by omega)) (cwV 1 hts gX4_waiting_X4_isNode rfl rfl rfl (by decide +kernel) ⟨by decide, by decide⟩) (va_recv hC.1 hP (ci := 4) rfl (wM_obj)) hC hP hS (fun _ h => h) rfl hl.1 rfl (Nat.le_of_ble_eq_true rfl) dX4_waiting_3 ⟨Nat.le_of_ble_eq_true rfl, Nat.le_of_ble_eq_true rfl⟩ (fun H locs hP hS _ _ => ?_)
  refine k_if_eq (tgt := 13) hx hb dX4_waiting_6 (by decide) (by omega) (fun c6 => ?_) (fun c6 => ?_)
  · exfalso; omega
  · skip
    refine k_ic (x := 0) hx hb dX4_waiting_9 (by decide) ?_
    refine lv_goto (tgt := 14) hx hb dX4_waiting_10 (by decide) ?_
    refine kV_i (r := nI 0) (w2 := wM g a (w3 s 9 0 0 0)) (As := [.int (nI 0)]) (b := a 0) (rest := []) (A1 := A) hfx (c_X4_throwsIt_0 l (n := n) hA (s := s)) (cwV 1 hts gX4_waiting_X4_throwsIt rfl rfl rfl (by decide +kernel) ⟨by decide, by decide⟩) (va_recv hC.1 hP (ci := 4) rfl (wM_obj)) hC hP hS (fun _ h => h) rfl hl.1 rfl (Nat.le_of_ble_eq_true rfl) dX4_waiting_14 ⟨Nat.le_of_ble_eq_true rfl, Nat.le_of_ble_eq_true rfl⟩ (fun H locs hP hS _ _ => ?_)
    refine k_if_eq (tgt := 24) hx hb dX4_waiting_17 (by decide) (by omega) (fun c17 => ?_) (fun c17 => ?_)
    · skip
      refine lv_aload_n hx hb dX4_waiting_24 rfl (lv_at hl 0 rfl) ?_
      refine lv_iload_n hx hb dX4_waiting_25 rfl (lv_at hl 1 rfl) ?_
      refine kV_i (r := nI U) (w2 := wM g a (w3 s 9 0 0 0)) (As := [.int (nI nd)]) (b := a 0) (rest := []) (A1 := A) hfx (c_X4_updatesTo l hA (s := (w3 s 9 0 0 0)) (hm.m9) (nd := nd) (p := p) (U := U) hnd (by simp only [w3_c (show (3:Nat) ≠ 9 by decide), w3_c (show (0:Nat) ≠ 9 by decide), w3_c (show (4:Nat) ≠ 9 by decide), w3_c (show (5:Nat) ≠ 9 by decide), w3_c (show (1:Nat) ≠ 9 by decide)]; exact hp) (by simp only [w3_c (show (3:Nat) ≠ 9 by decide), w3_c (show (0:Nat) ≠ 9 by decide), w3_c (show (4:Nat) ≠ 9 by decide), w3_c (show (5:Nat) ≠ 9 by decide), w3_c (show (1:Nat) ≠ 9 by decide)]; exact hpe) (fun k hk hne => by simp only [w3_c (show (3:Nat) ≠ 9 by decide), w3_c (show (0:Nat) ≠ 9 by decide), w3_c (show (4:Nat) ≠ 9 by decide), w3_c (show (5:Nat) ≠ 9 by decide), w3_c (show (1:Nat) ≠ 9 by decide)]; exact hu k hk hne) (by simp only [w3_c (show (3:Nat) ≠ 9 by decide), w3_c (show (0:Nat) ≠ 9 by decide), w3_c (show (4:Nat) ≠ 9 by decide), w3_c (show (5:Nat) ≠ 9 by decide), w3_c (show (1:Nat) ≠ 9 by decide)]; exact hle) (by simp only [w3_c (show (3:Nat) ≠ 9 by decide), w3_c (show (0:Nat) ≠ 9 by decide), w3_c (show (4:Nat) ≠ 9 by decide), w3_c (show (5:Nat) ≠ 9 by decide), w3_c (show (1:Nat) ≠ 9 by decide)]; exact hU)) (cwV 1 hts gX4_waiting_X4_updatesTo rfl rfl rfl (by decide +kernel) ⟨by decide, by decide⟩) (va_recv hC.1 hP (ci := 4) rfl (wM_obj)) hC hP hS (fun _ h => h) rfl hl.1 rfl (Nat.le_of_ble_eq_true rfl) dX4_waiting_26 ⟨Nat.le_of_ble_eq_true rfl, Nat.le_of_ble_eq_true rfl⟩ (fun H locs hP hS _ _ => ?_)
      refine k_bi (x := 100) hx hb dX4_waiting_29 (by decide) ?_
      refine lv_aload_n hx hb dX4_waiting_31 rfl (lv_at hl 0 rfl) ?_
      refine lv_iload_n hx hb dX4_waiting_32 rfl (lv_at hl 1 rfl) ?_
      refine kV_i (r := nI V) (w2 := wM g a (w3 s 9 0 0 0)) (As := [.int (nI nd)]) (b := a 0) (rest := [.int (nI 100), .int (nI U)]) (A1 := A) hfx (c_X4_acksTo l hA (s := (w3 s 9 0 0 0)) (hm.m9) (nd := nd) (p := p) (V := V) hnd (by simp only [w3_c (show (3:Nat) ≠ 9 by decide), w3_c (show (0:Nat) ≠ 9 by decide), w3_c (show (4:Nat) ≠ 9 by decide), w3_c (show (5:Nat) ≠ 9 by decide), w3_c (show (1:Nat) ≠ 9 by decide)]; exact hp) (by simp only [w3_c (show (3:Nat) ≠ 9 by decide), w3_c (show (0:Nat) ≠ 9 by decide), w3_c (show (4:Nat) ≠ 9 by decide), w3_c (show (5:Nat) ≠ 9 by decide), w3_c (show (1:Nat) ≠ 9 by decide)]; exact hpe) (fun k hk hne => by simp only [w3_c (show (3:Nat) ≠ 9 by decide), w3_c (show (0:Nat) ≠ 9 by decide), w3_c (show (4:Nat) ≠ 9 by decide), w3_c (show (5:Nat) ≠ 9 by decide), w3_c (show (1:Nat) ≠ 9 by decide)]; exact hu k hk hne) (by simp only [w3_c (show (3:Nat) ≠ 9 by decide), w3_c (show (0:Nat) ≠ 9 by decide), w3_c (show (4:Nat) ≠ 9 by decide), w3_c (show (5:Nat) ≠ 9 by decide), w3_c (show (1:Nat) ≠ 9 by decide)]; exact hla) (by simp only [w3_c (show (3:Nat) ≠ 9 by decide), w3_c (show (0:Nat) ≠ 9 by decide), w3_c (show (4:Nat) ≠ 9 by decide), w3_c (show (5:Nat) ≠ 9 by decide), w3_c (show (1:Nat) ≠ 9 by decide)]; exact hV)) (cwV 1 hts gX4_waiting_X4_acksTo rfl rfl rfl (by decide +kernel) ⟨by decide, by decide⟩) (va_recv hC.1 hP (ci := 4) rfl (wM_obj)) hC hP hS (fun _ h => h) rfl hl.1 rfl (Nat.le_of_ble_eq_true rfl) dX4_waiting_33 ⟨Nat.le_of_ble_eq_true rfl, Nat.le_of_ble_eq_true rfl⟩ (fun H locs hP hS _ _ => ?_)
      refine k_imul (x := 100) (y := V) hx hb dX4_waiting_36 ?_
      refine k_iadd (x := U) (y := 100 * V) hx hb dX4_waiting_37 ?_
      exact k_iret hx hb hr hlk (by rfl) hP hS dX4_waiting_38
    · exfalso; omega
set_option maxHeartbeats 4000000 in
set_option maxRecDepth 100000 in
/-- waiting: out of the chain -/
theorem c_X4_waiting_o (l : Launch) {g : GG} {a : Nat → Nat} {n : Nat} {A : Nat → Prop} (hA : Ap A a 8) {s : CS} (hm : Mh n s) {nd : Nat} (hnd : nd < n) (hno : ∀ k, k < s 1 0 0 → s 0 0 k ≠ nd) : Met l yX4_waiting wsX4_waiting ({ frames := 2, cells := 0, slots := 0, locals := 45 }) (pC g [.ref (a 0), .int (nI nd)] (wM g a s)) (qI g (nI 0) (wM g a (w3 s 9 0 0 0)) A) 0 0 A := by
  refine k_start (cc := cX4_waiting) (maxL := 2) (ret := (some .int)) (by decide) rfl (Nat.le_of_ble_eq_true rfl) ?_
  intro pr en s0 m args below meth cd hx hb hml hr hlk hts hown hin hC hP ls hl
  have hS : va_S A s0.heap s0.heap [] := va_S.rf
  have hfx : CallFix pr m cd cX4_waiting 2 s0 args wsX4_waiting RX4 := ⟨hx, hb, hml, hown, hts⟩
  have hu4 : ∀ w ∈ wsX40, w.before args s0 = true := fun w h => hts w ((by decide +kernel : ∀ w ∈ wsX40, w ∈ wsX4_waiting) w h)
  have hl : lv_has ls 2 [(0, .ref (a 0)), (1, .int (nI nd))] := hl
  have m0 := hm.1
  have m1 := hm.2.1
  refine lv_aload_n hx hb dX4_waiting_0 rfl (lv_at hl 0 rfl) ?_
  refine lv_aload_n hx hb dX4_waiting_1 rfl (lv_at hl 0 rfl) ?_
  refine lv_iload_n hx hb dX4_waiting_2 rfl (lv_at hl 1 rfl) ?_
  refine kV_i (r := nI 1) (w2 := wM g a s) (As := [.int (nI nd)]) (b := a 0) (rest := [.ref (a 0)]) (A1 := A) hfx (c_X4_isNode l hA (s := s) (hm) (j := nd) (by omega)) (cwV 1 hts gX4_waiting_X4_isNode rfl rfl rfl (by decide +kernel) ⟨by decide, by decide⟩) (va_recv hC.1 hP (ci := 4) rfl (wM_obj)) hC hP hS (fun _ h => h) rfl hl.1 rfl (Nat.le_of_ble_eq_true rfl) dX4_waiting_3 ⟨Nat.le_of_ble_eq_true rfl, Nat.le_of_ble_eq_true rfl⟩ (fun H locs hP hS _ _ => ?_)
  refine k_if_eq (tgt := 13) hx hb dX4_waiting_6 (by decide) (by omega) (fun c6 => ?_) (fun c6 => ?_)
  · exfalso; omega
  · skip
    refine k_ic (x := 0) hx hb dX4_waiting_9 (by decide) ?_
    refine lv_goto (tgt := 14) hx hb dX4_waiting_10 (by decide) ?_
    refine kV_i (r := nI 0) (w2 := wM g a (w3 s 9 0 0 0)) (As := [.int (nI 0)]) (b := a 0) (rest := []) (A1 := A) hfx (c_X4_throwsIt_0 l (n := n) hA (s := s)) (cwV 1 hts gX4_waiting_X4_throwsIt rfl rfl rfl (by decide +kernel) ⟨by decide, by decide⟩) (va_recv hC.1 hP (ci := 4) rfl (wM_obj)) hC hP hS (fun _ h => h) rfl hl.1 rfl (Nat.le_of_ble_eq_true rfl) dX4_waiting_14 ⟨Nat.le_of_ble_eq_true rfl, Nat.le_of_ble_eq_true rfl⟩ (fun H locs hP hS _ _ => ?_)
    refine k_if_eq (tgt := 24) hx hb dX4_waiting_17 (by decide) (by omega) (fun c17 => ?_) (fun c17 => ?_)
    · skip
      refine lv_aload_n hx hb dX4_waiting_24 rfl (lv_at hl 0 rfl) ?_
      refine lv_iload_n hx hb dX4_waiting_25 rfl (lv_at hl 1 rfl) ?_
      refine kV_i (r := nI 0) (w2 := wM g a (w3 s 9 0 0 0)) (As := [.int (nI nd)]) (b := a 0) (rest := []) (A1 := A) hfx (c_X4_updatesTo_no l hA (s := (w3 s 9 0 0 0)) (hm.m9) (nd := nd) hnd (hno)) (cwV 1 hts gX4_waiting_X4_updatesTo rfl rfl rfl (by decide +kernel) ⟨by decide, by decide⟩) (va_recv hC.1 hP (ci := 4) rfl (wM_obj)) hC hP hS (fun _ h => h) rfl hl.1 rfl (Nat.le_of_ble_eq_true rfl) dX4_waiting_26 ⟨Nat.le_of_ble_eq_true rfl, Nat.le_of_ble_eq_true rfl⟩ (fun H locs hP hS _ _ => ?_)
      refine k_bi (x := 100) hx hb dX4_waiting_29 (by decide) ?_
      refine lv_aload_n hx hb dX4_waiting_31 rfl (lv_at hl 0 rfl) ?_
      refine lv_iload_n hx hb dX4_waiting_32 rfl (lv_at hl 1 rfl) ?_
      refine kV_i (r := nI 0) (w2 := wM g a (w3 s 9 0 0 0)) (As := [.int (nI nd)]) (b := a 0) (rest := [.int (nI 100), .int (nI 0)]) (A1 := A) hfx (c_X4_acksTo_no l hA (s := (w3 s 9 0 0 0)) (hm.m9) (nd := nd) hnd (hno)) (cwV 1 hts gX4_waiting_X4_acksTo rfl rfl rfl (by decide +kernel) ⟨by decide, by decide⟩) (va_recv hC.1 hP (ci := 4) rfl (wM_obj)) hC hP hS (fun _ h => h) rfl hl.1 rfl (Nat.le_of_ble_eq_true rfl) dX4_waiting_33 ⟨Nat.le_of_ble_eq_true rfl, Nat.le_of_ble_eq_true rfl⟩ (fun H locs hP hS _ _ => ?_)
      refine k_imul (x := 100) (y := 0) hx hb dX4_waiting_36 ?_
      refine k_iadd (x := 0) (y := 100 * 0) hx hb dX4_waiting_37 ?_
      exact k_iret hx hb hr hlk (by rfl) hP hS dX4_waiting_38
    · exfalso; omega
end
