section
-- ===== PART A: goes FIRST, ahead of the names: the tables' words, and 'selects' of the private methods out of them =====
/-- a private method of a class that the tables say can be made, by its rows of tables_1 -/
def lw_okq (q : MethodName × Nat) : Prop := (q.1.cls ≠ "java/lang/invoke/MethodHandle" ∧ q.1.cls ≠ "java/lang/invoke/VarHandle") ∧ Cond.instantiable q.1.cls q.2 ∈ tables_1 ∧ Cond.privateMethod q.1 ∈ tables_1 ∧ Cond.instanceMethod q.1 ∈ tables_1
theorem lw_p0 : lw_okq (⟨"TileBins", "layOut", "(IIII)V"⟩, 11) := ⟨⟨by decide +kernel, by decide +kernel⟩, List.mem_of_getElem? (i := 13) (by decide +kernel), List.mem_of_getElem? (i := 21) (by decide +kernel), List.mem_of_getElem? (i := 22) (by decide +kernel)⟩
theorem lw_p1 : lw_okq (⟨"TileBins", "tilesAcross", "(II)I"⟩, 11) := ⟨⟨by decide +kernel, by decide +kernel⟩, List.mem_of_getElem? (i := 13) (by decide +kernel), List.mem_of_getElem? (i := 25) (by decide +kernel), List.mem_of_getElem? (i := 26) (by decide +kernel)⟩
theorem lw_p2 : lw_okq (⟨"TileBins", "takeAllOut", "()V"⟩, 11) := ⟨⟨by decide +kernel, by decide +kernel⟩, List.mem_of_getElem? (i := 13) (by decide +kernel), List.mem_of_getElem? (i := 29) (by decide +kernel), List.mem_of_getElem? (i := 30) (by decide +kernel)⟩
theorem lw_p3 : lw_okq (⟨"java/lang/Throwable", "fillInStackTrace", "(I)Ljava/lang/Throwable;"⟩, 6) := ⟨⟨by decide +kernel, by decide +kernel⟩, List.mem_of_getElem? (i := 121) (by decide +kernel), List.mem_of_getElem? (i := 119) (by decide +kernel), List.mem_of_getElem? (i := 120) (by decide +kernel)⟩
theorem lw_p4 : lw_okq (⟨"TileBins", "tilesInAll", "()I"⟩, 11) := ⟨⟨by decide +kernel, by decide +kernel⟩, List.mem_of_getElem? (i := 13) (by decide +kernel), List.mem_of_getElem? (i := 156) (by decide +kernel), List.mem_of_getElem? (i := 157) (by decide +kernel)⟩
theorem lw_p5 : lw_okq (⟨"TileBins", "makeRoom", "()V"⟩, 11) := ⟨⟨by decide +kernel, by decide +kernel⟩, List.mem_of_getElem? (i := 13) (by decide +kernel), List.mem_of_getElem? (i := 190) (by decide +kernel), List.mem_of_getElem? (i := 191) (by decide +kernel)⟩
theorem lw_p6 : lw_okq (⟨"TileBins", "isTile", "(I)Z"⟩, 11) := ⟨⟨by decide +kernel, by decide +kernel⟩, List.mem_of_getElem? (i := 13) (by decide +kernel), List.mem_of_getElem? (i := 215) (by decide +kernel), List.mem_of_getElem? (i := 216) (by decide +kernel)⟩
theorem lw_p7 : lw_okq (⟨"TileBins", "itemsTouching", "(I)I"⟩, 11) := ⟨⟨by decide +kernel, by decide +kernel⟩, List.mem_of_getElem? (i := 13) (by decide +kernel), List.mem_of_getElem? (i := 220) (by decide +kernel), List.mem_of_getElem? (i := 221) (by decide +kernel)⟩
theorem lw_p8 : lw_okq (⟨"TileBins", "leftOf", "(I)I"⟩, 11) := ⟨⟨by decide +kernel, by decide +kernel⟩, List.mem_of_getElem? (i := 13) (by decide +kernel), List.mem_of_getElem? (i := 224) (by decide +kernel), List.mem_of_getElem? (i := 225) (by decide +kernel)⟩
theorem lw_p9 : lw_okq (⟨"TileBins", "topOf", "(I)I"⟩, 11) := ⟨⟨by decide +kernel, by decide +kernel⟩, List.mem_of_getElem? (i := 13) (by decide +kernel), List.mem_of_getElem? (i := 228) (by decide +kernel), List.mem_of_getElem? (i := 229) (by decide +kernel)⟩
theorem lw_p10 : lw_okq (⟨"TileBins", "touches", "(III)Z"⟩, 11) := ⟨⟨by decide +kernel, by decide +kernel⟩, List.mem_of_getElem? (i := 13) (by decide +kernel), List.mem_of_getElem? (i := 232) (by decide +kernel), List.mem_of_getElem? (i := 233) (by decide +kernel)⟩
theorem lw_p11 : lw_okq (⟨"TileBins", "sideLength", "()I"⟩, 11) := ⟨⟨by decide +kernel, by decide +kernel⟩, List.mem_of_getElem? (i := 13) (by decide +kernel), List.mem_of_getElem? (i := 236) (by decide +kernel), List.mem_of_getElem? (i := 237) (by decide +kernel)⟩
theorem lw_p12 : lw_okq (⟨"TileBins", "firstTouching", "(II)I"⟩, 11) := ⟨⟨by decide +kernel, by decide +kernel⟩, List.mem_of_getElem? (i := 13) (by decide +kernel), List.mem_of_getElem? (i := 248) (by decide +kernel), List.mem_of_getElem? (i := 249) (by decide +kernel)⟩
theorem lw_p13 : lw_okq (⟨"TileBinsModel", "refuse", "(ZZ)Z"⟩, 14) := ⟨⟨by decide +kernel, by decide +kernel⟩, List.mem_of_getElem? (i := 301) (by decide +kernel), List.mem_of_getElem? (i := 361) (by decide +kernel), List.mem_of_getElem? (i := 362) (by decide +kernel)⟩
theorem lw_p14 : lw_okq (⟨"TileBinsModel", "tiles", "()I"⟩, 14) := ⟨⟨by decide +kernel, by decide +kernel⟩, List.mem_of_getElem? (i := 301) (by decide +kernel), List.mem_of_getElem? (i := 365) (by decide +kernel), List.mem_of_getElem? (i := 366) (by decide +kernel)⟩
theorem lw_p15 : lw_okq (⟨"TileBinsModel", "across", "()I"⟩, 14) := ⟨⟨by decide +kernel, by decide +kernel⟩, List.mem_of_getElem? (i := 301) (by decide +kernel), List.mem_of_getElem? (i := 369) (by decide +kernel), List.mem_of_getElem? (i := 370) (by decide +kernel)⟩
def lw_privs_1 : List (MethodName × Nat) := [(⟨"TileBins", "layOut", "(IIII)V"⟩, 11), (⟨"TileBins", "tilesAcross", "(II)I"⟩, 11), (⟨"TileBins", "takeAllOut", "()V"⟩, 11), (⟨"java/lang/Throwable", "fillInStackTrace", "(I)Ljava/lang/Throwable;"⟩, 6), (⟨"TileBins", "tilesInAll", "()I"⟩, 11), (⟨"TileBins", "makeRoom", "()V"⟩, 11), (⟨"TileBins", "isTile", "(I)Z"⟩, 11), (⟨"TileBins", "itemsTouching", "(I)I"⟩, 11), (⟨"TileBins", "leftOf", "(I)I"⟩, 11), (⟨"TileBins", "topOf", "(I)I"⟩, 11), (⟨"TileBins", "touches", "(III)Z"⟩, 11), (⟨"TileBins", "sideLength", "()I"⟩, 11), (⟨"TileBins", "firstTouching", "(II)I"⟩, 11), (⟨"TileBinsModel", "refuse", "(ZZ)Z"⟩, 14), (⟨"TileBinsModel", "tiles", "()I"⟩, 14), (⟨"TileBinsModel", "across", "()I"⟩, 14)]
theorem lw_r1 : ∀ q ∈ lw_privs_1, lw_okq q := List.forall_mem_cons.mpr ⟨lw_p0, List.forall_mem_cons.mpr ⟨lw_p1, List.forall_mem_cons.mpr ⟨lw_p2, List.forall_mem_cons.mpr ⟨lw_p3, List.forall_mem_cons.mpr ⟨lw_p4, List.forall_mem_cons.mpr ⟨lw_p5, List.forall_mem_cons.mpr ⟨lw_p6, List.forall_mem_cons.mpr ⟨lw_p7, List.forall_mem_cons.mpr ⟨lw_p8, List.forall_mem_cons.mpr ⟨lw_p9, List.forall_mem_cons.mpr ⟨lw_p10, List.forall_mem_cons.mpr ⟨lw_p11, List.forall_mem_cons.mpr ⟨lw_p12, List.forall_mem_cons.mpr ⟨lw_p13, List.forall_mem_cons.mpr ⟨lw_p14, List.forall_mem_cons.mpr ⟨lw_p15, fun _ h => absurd h List.not_mem_nil⟩⟩⟩⟩⟩⟩⟩⟩⟩⟩⟩⟩⟩⟩⟩⟩
theorem lw_p16 : lw_okq (⟨"TileBinsModel", "tilesOf", "(I)I"⟩, 14) := ⟨⟨by decide +kernel, by decide +kernel⟩, List.mem_of_getElem? (i := 301) (by decide +kernel), List.mem_of_getElem? (i := 386) (by decide +kernel), List.mem_of_getElem? (i := 387) (by decide +kernel)⟩
theorem lw_p17 : lw_okq (⟨"TileBinsModel", "touches", "(II)Z"⟩, 14) := ⟨⟨by decide +kernel, by decide +kernel⟩, List.mem_of_getElem? (i := 301) (by decide +kernel), List.mem_of_getElem? (i := 390) (by decide +kernel), List.mem_of_getElem? (i := 391) (by decide +kernel)⟩
theorem lw_p18 : lw_okq (⟨"TileBinsModel", "edge", "(II)I"⟩, 14) := ⟨⟨by decide +kernel, by decide +kernel⟩, List.mem_of_getElem? (i := 301) (by decide +kernel), List.mem_of_getElem? (i := 394) (by decide +kernel), List.mem_of_getElem? (i := 395) (by decide +kernel)⟩
theorem lw_p19 : lw_okq (⟨"TileBinsModel", "isTile", "(I)Z"⟩, 14) := ⟨⟨by decide +kernel, by decide +kernel⟩, List.mem_of_getElem? (i := 301) (by decide +kernel), List.mem_of_getElem? (i := 406) (by decide +kernel), List.mem_of_getElem? (i := 407) (by decide +kernel)⟩
theorem lw_p20 : lw_okq (⟨"TileBinsModel", "manyOf", "(I)I"⟩, 14) := ⟨⟨by decide +kernel, by decide +kernel⟩, List.mem_of_getElem? (i := 301) (by decide +kernel), List.mem_of_getElem? (i := 410) (by decide +kernel), List.mem_of_getElem? (i := 411) (by decide +kernel)⟩
def lw_privs_2 : List (MethodName × Nat) := [(⟨"TileBinsModel", "tilesOf", "(I)I"⟩, 14), (⟨"TileBinsModel", "touches", "(II)Z"⟩, 14), (⟨"TileBinsModel", "edge", "(II)I"⟩, 14), (⟨"TileBinsModel", "isTile", "(I)Z"⟩, 14), (⟨"TileBinsModel", "manyOf", "(I)I"⟩, 14)]
theorem lw_r2 : ∀ q ∈ lw_privs_2, lw_okq q := List.forall_mem_cons.mpr ⟨lw_p16, List.forall_mem_cons.mpr ⟨lw_p17, List.forall_mem_cons.mpr ⟨lw_p18, List.forall_mem_cons.mpr ⟨lw_p19, List.forall_mem_cons.mpr ⟨lw_p20, fun _ h => absurd h List.not_mem_nil⟩⟩⟩⟩⟩
def lw_privs : List (MethodName × Nat) := lw_privs_1 ++ (lw_privs_2)
def lw_tbl : List Cond := k2_sels lw_privs ++ tables_1
theorem lw_privs_ok : ∀ q ∈ lw_privs, lw_okq q := by
  show ∀ q ∈ lw_privs_1 ++ (lw_privs_2), lw_okq q
  exact List.forall_mem_append.mpr ⟨lw_r1, lw_r2⟩
end
section
/-! ===== BEGIN exceptions that leave a method, and their catching by the caller (launches without stack traces) ===== -/
section VXA
/-! The laws vx_back, vx_callV, vx_callS, vx_callSW, vx_throw0, vx_throwS follow proofs of the library, with one case more: JvmDerived/Free/Laws.lean (Back.of_free), Shelf42/LK1.lean (callV, callS), Shelf/KitTraced.lean (throwNew0V, throwNewS). -/
/-- where a method has thrown q: the class by its name, the cell, what was written, the world -/
def vx_T (XC : String → State → State → Prop) (st : State) (q : Addr) (t : State) (mc ms : Nat) (free : Addr → Prop) : Prop :=
  ∃ (E : String) (ce : Cell) (L : List Loc), XC E st t ∧ t.heap[q]? = some ce ∧ ce.vm = .none ∧ st.vm.findClass E = some ce.cls ∧ st.WarmedH t.vm ∧ st.sameButNew ({ t with vm := st.vm } : State) L mc ms ∧ ∀ z ∈ L, free z.base
def vx_Q (Qc : Array Value → State → Outcome → State → Prop) (XC : String → State → State → Prop) (mc ms : Nat) (free : Addr → Prop) : Array Value → State → Outcome → State → Prop := fun a st o t =>
  (Qc a st o t ∧ ∃ L, FrameEnd st o t L mc ms ∧ ∀ q ∈ L, free q.base) ∨ ∃ q, o = .threw q ∧ vx_T XC st q t mc ms free
/-- a callee that returns or throws -/
def vx_Met (l : Launch) (y : MethodName) (ws : List Cond) (rm : Room) (Pc : Array Value → State → Prop) (Qc : Array Value → State → Outcome → State → Prop) (XC : String → State → State → Prop) (mc ms : Nat) (free : Addr → Prop) : Prop :=
  MetFree l y (headSpec ws rm) Pc (fun _ _ _ _ _ => True) (vx_Q Qc XC mc ms free)
def vx_Post (XC : String → State → State → Prop) (mc ms : Nat) (free : Addr → Prop) : Pt → Array Value → Addr → Pt → Prop := fun A a q B =>
  ∃ (g : JFrame) (mk : MethodId) (t : State) (L : List Loc) (E : String) (ce : Cell), B.U.heap = t.heap ∧ B.U.vm = t.vm ∧ XC E (A.U.calling g mk a) t ∧ t.heap[q]? = some ce ∧ ce.vm = .none ∧ A.U.vm.findClass E = some ce.cls ∧ B.locs = A.locs ++ L ∧ (∀ z ∈ L, free z.base) ∧ B.cells = A.cells + mc ∧ B.slots = A.slots + ms
def vx_Back (l : Launch) (R : Room) (p : Program) (e : Env) (below : List Frame) (s : State) (sargs : Array Value) (y : MethodName) (len W9 : Nat)
    (Pre : Pt → Array Value → Prop) (Post : Pt → Array Value → Option Value → Pt → Prop) (PostX : Pt → Array Value → Addr → Pt → Prop) : Prop :=
  ∀ (m : MethodId) (meth : Method) (c : Code) (A : Pt) (g : JFrame) (ig : Instr) (mk : MethodId) (a : Array Value),
    Stand p l e R s m sargs below meth c A.U A.locs A.cells A.slots → g.method = m → g.locals.size = c.maxLocals → decode c.code g.pc = .ok (ig, len) →
    2 * g.monitorRoom + (g.stack.map fun v => v.category).sum ≤ W9 → A.U.methodNamed? y = some mk → Pre A a →
    (∃ (v : Option Value) (B : Pt), Stand p l e R s m sargs below meth c B.U B.locs B.cells B.slots ∧ Post A a v B ∧
      Steps p.tables e below (doInvoke e (A.U.setTop g) [] mk a).1 (B.U.setTop { g with pc := g.pc + len, stack := v.toList ++ g.stack })) ∨
    (∃ (q : Addr) (B : Pt), Stand p l e R s m sargs below meth c B.U B.locs B.cells B.slots ∧ PostX A a q B ∧
      Steps p.tables e below (doInvoke e (A.U.setTop g) [] mk a).1 ((B.U.setTop g).pushFrame (.throwing q)))
section Payer
variable {l : Launch} {R : Room} {p : Program} {e : Env} {below : List Frame} {s : State} {sargs : Array Value} {y : MethodName} {len W9 : Nat}
theorem vx_back {ws : List Cond} {rm : Room} {Pc : Array Value → State → Prop} {Qc : Array Value → State → Outcome → State → Prop} {XC : String → State → State → Prop} {mc ms : Nat} {free : Addr → Prop} {bytes : ByteArray} {maxL : Nat} {ret : Option FieldType}
    (hM : vx_Met l y ws rm Pc Qc XC mc ms free) (hblind : FrameBlind Pc) (hrc : rm.cells = mc) (hrs : rm.slots = ms)
    (hframes : rm.frames + 1 ≤ R.frames) (hlocals : W9 + (maxL + 11) + rm.locals ≤ R.locals)
    (hws : ∀ w ∈ ws, ∀ a' U, s.WarmedH U.vm → w.before a' U = true) (hcode : Cond.code y bytes maxL ret ∈ ws) (hinit : ∀ a' U, s.WarmedH U.vm → (Cond.initialized y.cls).before a' U = true) :
    vx_Back l R p e below s sargs y len W9 (PreOf R mc ms Pc) (PostOf Qc mc ms free) (vx_Post XC mc ms free) := by
  intro m meth c A g ig mk a X hg hsize hdg hW hn hp
  have h1 : (headSpec ws rm).pre.before a A.U = true := atoms_intro fun w hw => hws w hw _ _ X.warmed
  have h2 : (Cond.code y bytes maxL ret).before a A.U = true := hws _ hcode _ _ X.warmed
  have h3 : (Cond.initialized y.cls).before a A.U = true := hinit _ _ X.warmed
  have h4 : A.cells + (headSpec ws rm).room.cells ≤ R.cells := by rw [show (headSpec ws rm).room.cells = mc from hrc]; exact hp.1
  have h5 : A.slots + (headSpec ws rm).room.slots ≤ R.slots := by rw [show (headSpec ws rm).room.slots = ms from hrs]; exact hp.2.1
  have hPc : Pc a (A.U.calling g mk a) := hblind _ _ _ _ hp.2.2
  obtain ⟨U, Ls, c0, s0⟩ := A
  dsimp only [Pt.U, Pt.locs, Pt.cells, Pt.slots] at h1 h2 h3 h4 h5 X hn hPc ⊢
  obtain ⟨methY, cY, hmY, hcY, -, hlY, -, -, -, -⟩ := Cond.code_spec hn h2
  obtain ⟨kY, hkY, -⟩ := className_of_methodNamed hn
  have hinitY : kY.init = .initialized := Cond.initialized_spec (findClass_of_methodNamed hn) hkY h3
  have h : At U g.method c below := by rw [hg]; exact X.here
  have hlocals9 : W9 + (maxL + 11) + (headSpec ws rm).room.locals ≤ R.locals := hlocals
  have happ : (headSpec ws rm).appliesLoose y e.platform (U.calling g mk a) = true :=
    Spec.appliesLoose_calling (g := g) h hdg hn hkY hinitY
      (X.room_calling (g := g) (R' := (headSpec ws rm).room) hsize hmY hcY hframes (by rw [hlY]; omega) h4 h5) h1
  obtain ⟨mid, hmid⟩ := h.above
  have hfr : (U.setTop g).frames = (.java g :: mid) ++ below := by rw [State.frames_setTop' g h.top, hmid]; rfl
  obtain ⟨o, s₂, hsteps, -, hend, hq⟩ := Steps.callFree hM p X.admits X.cas X.clock (acts := []) hfr happ hPc trivial
  have hq' : vx_Q Qc XC mc ms free a (U.calling g mk a) o s₂ := hq
  rw [State.frames_setTop' g h.top] at hend
  obtain ⟨g₀, hg0⟩ := Option.isSome_iff_exists.mp h.top
  obtain ⟨r, hr⟩ := State.topJava?_eq_some.mp hg0
  have hr' : (({ U with heap := s₂.heap, slotsUsed := s₂.slotsUsed } : State).setVm s₂.vm).frames = .java g₀ :: r := hr
  rcases hq' with ⟨hqc, L, hfe, hL⟩ | ⟨q, rfl, E, ce, L, hx, hce, hcv, hcl, hW₂, hsm, hL⟩
  · obtain ⟨⟨v, rfl⟩, hW₂, e2, q2, q3, q4, q5, q6⟩ := id hfe
    have e3 : s₂ = ({ (U.calling g mk a).setFrames s₂.frames with heap := s₂.heap, slotsUsed := s₂.slotsUsed } : State).setVm s₂.vm := by
      have : s₂ = ({ s₂ with vm := (U.calling g mk a).vm } : State).setVm s₂.vm := rfl
      rw [e2] at this
      exact this
    obtain ⟨c₂, i₂, len₂, hc₂, hd₂, hf₂⟩ := hend
    have hW' : U.WarmedH s₂.vm := hW₂
    have hcc : c₂ = c := by
      have h1 : s₂.code? g.method = U.code? g.method := by
        rw [State.code?_eq, State.code?_eq, hW'.alike.method?]
      exact Option.some.inj (hc₂.symm.trans (h1.trans h.code))
    subst hcc
    have hlen : len₂ = len := by rw [hdg] at hd₂; cases hd₂; rfl
    subst hlen
    have hs₂ : s₂ = (({ U with heap := s₂.heap, slotsUsed := s₂.slotsUsed } : State).setVm s₂.vm).setTop { g with pc := g.pc + len₂, stack := v.toList ++ g.stack } := by
      refine e3.trans ?_
      rw [hf₂, State.calling_eq h.top, State.setFrames_setFrames, State.setTop_of_frames _ hr', hr]
      rfl
    have hsame : U.sameButNew ({ U with heap := s₂.heap, slotsUsed := s₂.slotsUsed } : State) L mc ms := by
      refine ⟨?_, q2, q3, q4, q5, q6⟩
      obtain ⟨t, ht, -⟩ := State.frames_cons hr
      show ({ U with heap := s₂.heap, slotsUsed := s₂.slotsUsed } : State) = { U.setFrames U.frames with heap := s₂.heap, slotsUsed := s₂.slotsUsed }
      rw [State.setFrames_self ht]
    subst hg
    refine Or.inl ⟨v, ⟨(({ U with heap := s₂.heap, slotsUsed := s₂.slotsUsed } : State).setVm s₂.vm), Ls ++ L, c0 + mc, s0 + ms⟩,
      ⟨X.admits, X.cas, X.clock, X.frames, X.room, X.hears, X.method, X.code, (X.here.setHeapUsed s₂.heap s₂.slotsUsed).setVm hW'.alike, X.tail, State.WarmedH.trans X.warmed hW', X.limits, X.bytes, X.same.trans (hsame.setVm s.vm)⟩,
      ⟨g, mk, s₂, L, rfl, rfl, hqc, rfl, hL, rfl, rfl⟩, ?_⟩
    show Steps p.tables e below _ ((({ U with heap := s₂.heap, slotsUsed := s₂.slotsUsed } : State).setVm s₂.vm).setTop { g with pc := g.pc + len₂, stack := v.toList ++ g.stack })
    rw [← hs₂]
    exact hsteps
  · obtain ⟨e2, q2, q3, q4, q5, q6⟩ := id hsm
    have e3 : s₂ = ({ (U.calling g mk a).setFrames s₂.frames with heap := s₂.heap, slotsUsed := s₂.slotsUsed } : State).setVm s₂.vm := by
      have : s₂ = ({ s₂ with vm := (U.calling g mk a).vm } : State).setVm s₂.vm := rfl
      rw [e2] at this
      exact this
    have hf₂ : s₂.frames = .throwing q :: .java g :: U.frames.tail := hend
    have hW' : U.WarmedH s₂.vm := hW₂
    have hs₂ : s₂ = ((({ U with heap := s₂.heap, slotsUsed := s₂.slotsUsed } : State).setVm s₂.vm).setTop g).pushFrame (.throwing q) := by
      refine e3.trans ?_
      rw [hf₂, State.calling_eq h.top, State.setFrames_setFrames, State.pushFrame, State.frames_setTop _ hr', State.setTop_of_frames _ hr', State.setFrames_setFrames, hr]
      rfl
    have hsame : U.sameButNew ({ U with heap := s₂.heap, slotsUsed := s₂.slotsUsed } : State) L mc ms := by
      refine ⟨?_, q2, q3, q4, q5, q6⟩
      obtain ⟨t, ht, -⟩ := State.frames_cons hr
      show ({ U with heap := s₂.heap, slotsUsed := s₂.slotsUsed } : State) = { U.setFrames U.frames with heap := s₂.heap, slotsUsed := s₂.slotsUsed }
      rw [State.setFrames_self ht]
    subst hg
    refine Or.inr ⟨q, ⟨(({ U with heap := s₂.heap, slotsUsed := s₂.slotsUsed } : State).setVm s₂.vm), Ls ++ L, c0 + mc, s0 + ms⟩,
      ⟨X.admits, X.cas, X.clock, X.frames, X.room, X.hears, X.method, X.code, (X.here.setHeapUsed s₂.heap s₂.slotsUsed).setVm hW'.alike, X.tail, State.WarmedH.trans X.warmed hW', X.limits, X.bytes, X.same.trans (hsame.setVm s.vm)⟩,
      ⟨g, mk, s₂, L, E, ce, rfl, rfl, hx, hce, hcv, hcl, rfl, hL, rfl, rfl⟩, ?_⟩
    show Steps p.tables e below _ (((({ U with heap := s₂.heap, slotsUsed := s₂.slotsUsed } : State).setVm s₂.vm).setTop g).pushFrame (.throwing q))
    rw [← hs₂]
    exact hsteps
end Payer
section Calls
variable {p : Program} {l : Launch} {e : Env} {R : Room} {s : State} {m : MethodId} {args : Array Value} {below : List Frame} {meth : Method} {c : Code} {T : State} {locs : List Loc} {cells slots : Nat}
theorem vx_callV (X : Stand p l e R s m args below meth c T locs cells slots) (hexec : p.tables.exec = Jvm.exec) {own C : String} {index : Nat} {y : MethodName} {bytes : ByteArray} {maxL : Nat} {ret : Option FieldType}
    (hown : s.vm.findClass own = some m.cls) (hlink : (Cond.methodLink own index y).before args s = true) (hinst : (Cond.instanceMethod y).before args s = true) (hsel : (Cond.selects C y y).before args s = true)
    (hcode : (Cond.code y bytes maxL ret).before args s = true) (hy : y.cls ≠ "java/lang/invoke/MethodHandle" ∧ y.cls ≠ "java/lang/invoke/VarHandle")
    {W9 : Nat} {Pre : Pt → Array Value → Prop} {Post : Pt → Array Value → Option Value → Pt → Prop} {PostX : Pt → Array Value → Addr → Pt → Prop} (hK : vx_Back l R p e below s args y 3 W9 Pre Post PostX)
    {b : Addr} {cellB : Cell} (hcell : T.heap[b]? = some cellB) (hobj : cellB.vm.isStatics = false) (hcls : s.vm.findClass C = some cellB.cls)
    {g : JFrame} (hg : g.method = m) (hsize : g.locals.size = c.maxLocals) {argsL rest : List Value} (hlen : ∀ sig, parseMethodDescriptor y.desc = some sig → argsL.length = sig.parameters.length)
    (hstack : g.stack = argsL.reverse ++ .ref b :: rest) (hW : 2 * g.monitorRoom + (rest.map fun v => v.category).sum ≤ W9) (hdg : decode c.code g.pc = .ok (.invokevirtual index, 3))
    (hpre : ∀ vm₁, s.WarmedH vm₁ → Pre ⟨T.setVm vm₁, locs, cells, slots⟩ (Value.ref b :: argsL).toArray) :
    (∃ (v : Option Value) (vm₁ : Vm) (B : Pt), s.WarmedH vm₁ ∧ Stand p l e R s m args below meth c B.U B.locs B.cells B.slots ∧ Post ⟨T.setVm vm₁, locs, cells, slots⟩ (Value.ref b :: argsL).toArray v B ∧
      ∀ target, Steps p.tables e below (B.U.setTop { g with pc := g.pc + 3, stack := v.toList ++ rest }) target → Steps p.tables e below (T.setTop g) target) ∨
    (∃ (q : Addr) (vm₁ : Vm) (B : Pt), s.WarmedH vm₁ ∧ Stand p l e R s m args below meth c B.U B.locs B.cells B.slots ∧ PostX ⟨T.setVm vm₁, locs, cells, slots⟩ (Value.ref b :: argsL).toArray q B ∧
      Steps p.tables e below (T.setTop g) ((B.U.setTop { g with stack := rest }).pushFrame (.throwing q))) := by
  obtain ⟨mk, methM, hnamed, hmethM, hstM, habM⟩ := Cond.instanceMethod_spec hinst
  obtain ⟨methM', cM, hmethM', -, -, -, -, -, -, hsigM⟩ := Cond.code_spec hnamed hcode
  cases hmethM.symm.trans hmethM'
  obtain ⟨c2, r2, m2, q1, q2, q3, q4, kP, hkP, hkPi⟩ := Cond.selects_spec hsel
  cases hcls.symm.trans q1
  cases (State.methodFound?_of_named hnamed hy).symm.trans q2
  cases hnamed.symm.trans q3
  have hselP : selectMethod e.platform s.vm cellB.cls mk = .method mk := by rw [Launch.admits_selectMethod X.admits]; exact q4
  obtain ⟨vm₁, X₁, hstep₁⟩ := X.invokevirtual hexec hown hlink hnamed hmethM hstM hkP hkPi hy (a := b) (cell := cellB) hcell
    (fun z h => by rw [h] at hobj; cases hobj) hselP hmethM habM hkP hkPi (g := g) hg (argsL := argsL) (rest := rest) (hlen _ hsigM) hstack hdg
  rcases hK m meth c ⟨T.setVm vm₁, locs, cells, slots⟩ { g with stack := rest } (.invokevirtual index) mk (Value.ref b :: argsL).toArray X₁ hg hsize hdg hW (X₁.named hnamed) (hpre vm₁ X₁.warmed) with ⟨v, B, X', hpost, hsteps⟩ | ⟨q, B, X', hpost, hsteps⟩
  · exact Or.inl ⟨v, vm₁, B, X₁.warmed, X', hpost, fun target h => hstep₁ _ fun acts => by rw [doInvoke_state]; exact hsteps.trans h⟩
  · exact Or.inr ⟨q, vm₁, B, X₁.warmed, X', hpost, hstep₁ _ fun acts => by rw [doInvoke_state]; exact hsteps⟩
theorem vx_callS (X : Stand p l e R s m args below meth c T locs cells slots) (hexec : p.tables.exec = Jvm.exec) {own : String} {index : Nat} {y : MethodName} {bytes : ByteArray} {maxL : Nat} {ret : Option FieldType}
    (hown : s.vm.findClass own = some m.cls) (hlink : (Cond.methodLink own index y).before args s = true) (hstat : (Cond.static y).before args s = true) (hinit : (Cond.initialized y.cls).before args s = true)
    (hcode : (Cond.code y bytes maxL ret).before args s = true) (hy : y.cls ≠ "java/lang/invoke/MethodHandle" ∧ y.cls ≠ "java/lang/invoke/VarHandle")
    {W9 : Nat} {Pre : Pt → Array Value → Prop} {Post : Pt → Array Value → Option Value → Pt → Prop} {PostX : Pt → Array Value → Addr → Pt → Prop} (hK : vx_Back l R p e below s args y 3 W9 Pre Post PostX)
    {g : JFrame} (hg : g.method = m) (hsize : g.locals.size = c.maxLocals) {argsL rest : List Value} (hlen : ∀ sig, parseMethodDescriptor y.desc = some sig → argsL.length = sig.parameters.length)
    (hstack : g.stack = argsL.reverse ++ rest) (hW : 2 * g.monitorRoom + (rest.map fun v => v.category).sum ≤ W9) (hdg : decode c.code g.pc = .ok (.invokestatic index, 3))
    (hpre : ∀ vm₁, s.WarmedH vm₁ → Pre ⟨T.setVm vm₁, locs, cells, slots⟩ argsL.toArray) :
    (∃ (v : Option Value) (vm₁ : Vm) (B : Pt), s.WarmedH vm₁ ∧ Stand p l e R s m args below meth c B.U B.locs B.cells B.slots ∧ Post ⟨T.setVm vm₁, locs, cells, slots⟩ argsL.toArray v B ∧
      ∀ target, Steps p.tables e below (B.U.setTop { g with pc := g.pc + 3, stack := v.toList ++ rest }) target → Steps p.tables e below (T.setTop g) target) ∨
    (∃ (q : Addr) (vm₁ : Vm) (B : Pt), s.WarmedH vm₁ ∧ Stand p l e R s m args below meth c B.U B.locs B.cells B.slots ∧ PostX ⟨T.setVm vm₁, locs, cells, slots⟩ argsL.toArray q B ∧
      Steps p.tables e below (T.setTop g) ((B.U.setTop { g with stack := rest }).pushFrame (.throwing q))) := by
  obtain ⟨mk, hnamed⟩ := Cond.code_named hcode
  obtain ⟨methM, cM, hmethM, -, -, -, -, -, -, hsigM⟩ := Cond.code_spec hnamed hcode
  have hstatic : methM.isStatic = true := Cond.static_spec hnamed hmethM hstat
  obtain ⟨kP, hkP, -⟩ := className_of_methodNamed hnamed
  have hinitP : kP.init = .initialized := Cond.initialized_spec (findClass_of_methodNamed hnamed) hkP hinit
  obtain ⟨vm₁, X₁, hstep₁⟩ := X.invokestatic hexec hown hlink hnamed hmethM hstatic hkP hinitP hy (g := g) hg (argsL := argsL) (rest := rest) (hlen _ hsigM) hstack hdg
  rcases hK m meth c ⟨T.setVm vm₁, locs, cells, slots⟩ { g with stack := rest } (.invokestatic index) mk argsL.toArray X₁ hg hsize hdg hW (X₁.named hnamed) (hpre vm₁ X₁.warmed) with ⟨v, B, X', hpost, hsteps⟩ | ⟨q, B, X', hpost, hsteps⟩
  · exact Or.inl ⟨v, vm₁, B, X₁.warmed, X', hpost, fun target h => hstep₁ _ fun acts => by rw [doInvoke_state]; exact hsteps.trans h⟩
  · exact Or.inr ⟨q, vm₁, B, X₁.warmed, X', hpost, hstep₁ _ fun acts => by rw [doInvoke_state]; exact hsteps⟩
end Calls
theorem vx_cls {s : State} {T : State} {vm₁ : Vm} {E : String} {k : ClassId} (hW : s.WarmedH vm₁) (h : (T.setVm vm₁).vm.findClass E = some k) : s.vm.findClass E = some k := by
  have h1 : vm₁.findClass E = some k := h
  rw [hW.alike.findClass] at h1
  exact h1
/-- the method's frame g, with q thrown over it -/
def vx_W (p : Program) (l : Launch) (e : Env) (R : Room) (s : State) (m : MethodId) (args : Array Value) (below : List Frame) (meth : Method) (c : Code) (H : Heap) (locs : List Loc) (cells slots : Nat) (Q : State → Prop) (g : JFrame) (q : Addr) : Prop :=
  ∀ T : State, T.heap = H → Stand p l e R s m args below meth c T locs cells slots → ∃ t, Steps p.tables e below ((T.setTop g).pushFrame (.throwing q)) t ∧ Q t
def vx_Run (p : Program) (l : Launch) (e : Env) (R : Room) (s : State) (m : MethodId) (args : Array Value) (below : List Frame) (meth : Method) (c : Code) (H : Heap) (locs : List Loc) (cells slots mc ms : Nat) (g : JFrame) (rest : List Value) (Qa : State → Outcome → State → Prop) (XC : String → State → State → Prop) (free : Addr → Prop) : Prop :=
  ∀ T : State, T.heap = H → Stand p l e R s m args below meth c T locs cells slots →
    (∃ (v : Option Value) (st₀ t T' : State) (L : List Loc), st₀.heap = H ∧ Stand p l e R s m args below meth c T' (locs ++ L) (cells + mc) (slots + ms) ∧ (∀ q ∈ L, free q.base) ∧ T'.heap = t.heap ∧ T'.vm = t.vm ∧ Qa st₀ (.returned v) t ∧
      Goes p e below T g T' { g with pc := g.pc + 3, stack := v.toList ++ rest }) ∨
    (∃ (q : Addr) (st₀ t T' : State) (L : List Loc) (E : String) (ce : Cell), st₀.heap = H ∧ Stand p l e R s m args below meth c T' (locs ++ L) (cells + mc) (slots + ms) ∧ (∀ z ∈ L, free z.base) ∧ T'.heap = t.heap ∧ T'.vm = t.vm ∧ XC E st₀ t ∧ t.heap[q]? = some ce ∧ ce.vm = .none ∧ s.vm.findClass E = some ce.cls ∧
      Steps p.tables e below (T.setTop g) ((T'.setTop { g with stack := rest }).pushFrame (.throwing q)))
def vx_X {S : Type} (px : S → Prop) (B : String → S → State → Prop) (A : Nat → Prop) : String → State → State → Prop := fun E st t => ∃ u : S, px u ∧ B E u t ∧ va_F A st t
section Runs
variable {p : Program} {l : Launch} {e : Env} {R : Room} {s : State} {m : MethodId} {args : Array Value} {below : List Frame} {meth : Method} {c : Code} {H : Heap} {locs : List Loc} {cells slots : Nat}
variable {y : MethodName} {bytes cc : ByteArray} {maxL nL mc ms n index : Nat} {ret : Option FieldType} {ws : List Cond} {rm : Room} {Pc : Array Value → State → Prop} {Qc : Array Value → State → Outcome → State → Prop} {XC : String → State → State → Prop} {free : Addr → Prop} {Ts : List Cond} {own C : String} {b : Addr} {As rest : List Value} {g : JFrame}
theorem vx_callBack (cb : CallB R s args own index y bytes maxL ret ws rm mc ms n) (hM : vx_Met l y ws rm Pc Qc XC mc ms free) (hbl : FrameBlind Pc) : vx_Back l R p e below s args y 3 8 (PreOf R mc ms Pc) (PostOf Qc mc ms free) (vx_Post XC mc ms free) := by
  obtain ⟨hrc, hrs, hfr, hlo, hws, hcw, -, hini, -⟩ := cb
  exact vx_back (bytes := bytes) (maxL := maxL) (ret := ret) hM hbl hrc hrs hfr hlo hws hcw (fun a' U hW => word_at hW (Or.inl (by first | rfl | simp [Cond.onTables, Cond.keeps, Cond.steady])) hini)
theorem vx_runV (S : CallFix p m c cc nL s args Ts own) (hM : vx_Met l y ws rm Pc Qc XC mc ms free) (cw : CallW R s args own C index y bytes maxL ret ws rm mc ms n) (hp : PreV s H C b Pc As)
    (hg : g.method = m) (hn : As.length = n) (hsize : g.locals.size = nL) (hstack : g.stack = As.reverse ++ .ref b :: rest) (hW : 2 * g.monitorRoom + (rest.map fun v => v.category).sum ≤ 8) (hdg : decode cc g.pc = .ok (.invokevirtual index, 3)) (hf : cells + mc ≤ R.cells ∧ slots + ms ≤ R.slots) :
    vx_Run p l e R s m args below meth c H locs cells slots mc ms g rest (Qc (Value.ref b :: As).toArray) XC free := by
  have hK : vx_Back l R p e below s args y 3 8 (PreOf R mc ms Pc) (PostOf Qc mc ms free) (vx_Post XC mc ms free) := vx_callBack cw.1 hM hp.1
  obtain ⟨⟨-, -, -, -, -, -, hcode, -, hy, hlen, hl⟩, hin, hse⟩ := cw
  obtain ⟨hx, hb, hml, ho, -⟩ := S
  obtain ⟨-, ⟨cellB, hcB, hoB, hclB⟩, hPc⟩ := hp
  intro T hT X
  rcases vx_callV X hx (C := C) (bytes := bytes) (maxL := maxL) (ret := ret) ho hl hin hse hcode hy hK (by rw [hT]; exact hcB) hoB hclB hg (hsize.trans hml.symm) (argsL := As) (rest := rest) (fun sig h => hn.trans (hlen sig h)) hstack hW (by rw [hb]; exact hdg)
    (fun vm₁ hW₁ => ⟨hf.1, hf.2, hPc (T.setVm vm₁) hT hW₁⟩) with ⟨v, vm₁, ⟨U', l2, c2, s2⟩, hW₁, X', ⟨g', mk, t, L, e1, e2, hq, h1, hL, h2, h3⟩, st⟩ | ⟨q, vm₁, ⟨U', l2, c2, s2⟩, hW₁, X', ⟨g', mk, t, L, E, ce, e1, e2, hq, hce, hcv, hcl, h1, hL, h2, h3⟩, st⟩
  · dsimp only [Pt.U, Pt.locs, Pt.cells, Pt.slots] at X' e1 e2 h1 h2 h3 st
    subst h1; subst h2; subst h3
    exact Or.inl ⟨v, (T.setVm vm₁).calling g' mk (Value.ref b :: As).toArray, t, U', L, hT, X', hL, e1, e2, hq, st⟩
  · dsimp only [Pt.U, Pt.locs, Pt.cells, Pt.slots] at X' e1 e2 h1 h2 h3 st hcl
    subst h1; subst h2; subst h3
    exact Or.inr ⟨q, (T.setVm vm₁).calling g' mk (Value.ref b :: As).toArray, t, U', L, E, ce, hT, X', hL, e1, e2, hq, hce, hcv, vx_cls hW₁ hcl, st⟩
theorem vx_runS (S : CallFix p m c cc nL s args Ts own) (hM : vx_Met l y ws rm Pc Qc XC mc ms free) (cw : CallB R s args own index y bytes maxL ret ws rm mc ms n ∧ (Cond.static y).before args s = true) (hp : PreS s H Pc As)
    (hg : g.method = m) (hn : As.length = n) (hsize : g.locals.size = nL) (hstack : g.stack = As.reverse ++ rest) (hW : 2 * g.monitorRoom + (rest.map fun v => v.category).sum ≤ 8) (hdg : decode cc g.pc = .ok (.invokestatic index, 3)) (hf : cells + mc ≤ R.cells ∧ slots + ms ≤ R.slots) :
    vx_Run p l e R s m args below meth c H locs cells slots mc ms g rest (Qc As.toArray) XC free := by
  have hK : vx_Back l R p e below s args y 3 8 (PreOf R mc ms Pc) (PostOf Qc mc ms free) (vx_Post XC mc ms free) := vx_callBack cw.1 hM hp.1
  obtain ⟨⟨-, -, -, -, -, -, hcode, hini, hy, hlen, hl⟩, hstt⟩ := cw
  obtain ⟨hx, hb, hml, ho, -⟩ := S
  intro T hT X
  rcases vx_callS X hx (bytes := bytes) (maxL := maxL) (ret := ret) ho hl hstt hini hcode hy hK hg (hsize.trans hml.symm) (argsL := As) (rest := rest) (fun sig h => hn.trans (hlen sig h)) hstack hW (by rw [hb]; exact hdg)
    (fun vm₁ hW₁ => ⟨hf.1, hf.2, hp.2 (T.setVm vm₁) hT hW₁⟩) with ⟨v, vm₁, ⟨U', l2, c2, s2⟩, hW₁, X', ⟨g', mk, t, L, e1, e2, hq, h1, hL, h2, h3⟩, st⟩ | ⟨q, vm₁, ⟨U', l2, c2, s2⟩, hW₁, X', ⟨g', mk, t, L, E, ce, e1, e2, hq, hce, hcv, hcl, h1, hL, h2, h3⟩, st⟩
  · dsimp only [Pt.U, Pt.locs, Pt.cells, Pt.slots] at X' e1 e2 h1 h2 h3 st
    subst h1; subst h2; subst h3
    exact Or.inl ⟨v, (T.setVm vm₁).calling g' mk As.toArray, t, U', L, hT, X', hL, e1, e2, hq, st⟩
  · dsimp only [Pt.U, Pt.locs, Pt.cells, Pt.slots] at X' e1 e2 h1 h2 h3 st hcl
    subst h1; subst h2; subst h3
    exact Or.inr ⟨q, (T.setVm vm₁).calling g' mk As.toArray, t, U', L, E, ce, hT, X', hL, e1, e2, hq, hce, hcv, vx_cls hW₁ hcl, st⟩
end Runs
section Rows
variable {p : Program} {l : Launch} {e : Env} {R : Room} {s : State} {m : MethodId} {args : Array Value} {below : List Frame} {meth : Method} {c : Code} {H : Heap} {locs : List Loc} {cells slots : Nat} {Q : State → Prop}
variable {mc ms : Nat} {free : Addr → Prop} {A0 A1 : Nat → Prop} {H0 : Heap} {a : Array Value} {pc : Nat} {ls : Array Slot} {st0 rest : List Value}
theorem vx_keep {st₀ t T' : State} {L : List Loc} (h0 : st₀.heap = H) (e1 : T'.heap = t.heap) (hS : va_S A0 H0 H locs) (hA : ∀ q, q < H.size → A1 q → A0 q) (hf : ∀ q, free q → A0 q) (hL : ∀ q ∈ L, free q.base) (hF : va_F A1 st₀ t) :
    H.size ≤ T'.heap.size ∧ (∀ q : Nat, q < H.size → ¬ A1 q → T'.heap[q]? = H[q]?) ∧ va_S A0 H0 T'.heap (locs ++ L) := by
  obtain ⟨hz, hk⟩ := hF
  rw [h0] at hz hk
  exact ⟨by rw [e1]; exact hz, fun q h1 h2 => by rw [e1]; exact hk q h1 h2,
    ⟨Nat.le_trans hS.1 (by rw [e1]; exact hz), fun q h1 h2 => by rw [e1, hk q (Nat.lt_of_lt_of_le h1 hS.1) (fun z => h2 (hA q (Nat.lt_of_lt_of_le h1 hS.1) z))]; exact hS.2.1 q h1 h2, fun q hq => by
      rcases List.mem_append.mp hq with h | h
      · exact hS.2.2 q h
      · exact hf _ (hL q h)⟩⟩
theorem vx_calli {S SX : Type} {post : Int32 → S → Prop} {px : SX → Prop} {B : S → State → Prop} {BX : String → SX → State → Prop} {AX : Nat → Prop} (hr : vx_Run p l e R s m args below meth c H locs cells slots mc ms (F0 m pc ls st0) rest (va_Qi post B A1 a) (vx_X px BX AX) free) (hS : va_S A0 H0 H locs) (hA : ∀ q, q < H.size → A1 q → A0 q) (hf : ∀ q, free q → A0 q) (hAX : ∀ q, q < H.size → AX q → A0 q)
    (kx : ∀ (E : String) (ce : Cell) (q9 : Addr) (u : SX) (t : State) (H1 : Heap) (locs1 : List Loc), t.heap = H1 → s.vm.Alike t.vm → px u → BX E u t → H.size ≤ H1.size → (∀ q : Nat, q < H.size → ¬ AX q → H1[q]? = H[q]?) → va_S A0 H0 H1 locs1 → H1[q9]? = some ce → ce.vm = .none → s.vm.findClass E = some ce.cls → vx_W p l e R s m args below meth c H1 locs1 (cells + mc) (slots + ms) Q (F0 m pc ls rest) q9)
    (kk : ∀ (r : Int32) (u : S) (t : State) (H1 : Heap) (locs1 : List Loc), t.heap = H1 → s.vm.Alike t.vm → post r u → B u t → H.size ≤ H1.size → (∀ q : Nat, q < H.size → ¬ A1 q → H1[q]? = H[q]?) → va_S A0 H0 H1 locs1 → W p l e R s m args below meth c H1 locs1 (cells + mc) (slots + ms) Q (F0 m (pc + 3) ls (.int r :: rest))) : W p l e R s m args below meth c H locs cells slots Q (F0 m pc ls st0) := by
  intro T hT X
  rcases hr T hT X with ⟨v, st₀, t, T', L, h0, X', hL, e1, e2, ⟨⟨r, u, hv, hp, hb⟩, hF⟩, st⟩ | ⟨q, st₀, t, T', L, E, ce, h0, X', hL, e1, e2, ⟨u, hp, hb, hF⟩, hce, hcv, hcl, st⟩
  · cases hv
    obtain ⟨k1, k2, k3⟩ := vx_keep h0 e1 hS hA hf hL hF
    obtain ⟨t2, a1, b1⟩ := kk r u t T'.heap (locs ++ L) e1.symm (by rw [← e2]; exact X'.warmed.alike) hp hb k1 k2 k3 T' rfl X'
    exact ⟨t2, st t2 a1, b1⟩
  · obtain ⟨k1, k2, k3⟩ := vx_keep h0 e1 hS hAX hf hL hF
    obtain ⟨t2, a1, b1⟩ := kx E ce q u t T'.heap (locs ++ L) e1.symm (by rw [← e2]; exact X'.warmed.alike) hp hb k1 k2 k3 (by rw [e1]; exact hce) hcv hcl T' rfl X'
    exact ⟨t2, st.trans a1, b1⟩
theorem vx_calll {S SX : Type} {post : Int64 → S → Prop} {px : SX → Prop} {B : S → State → Prop} {BX : String → SX → State → Prop} {AX : Nat → Prop} (hr : vx_Run p l e R s m args below meth c H locs cells slots mc ms (F0 m pc ls st0) rest (va_Ql post B A1 a) (vx_X px BX AX) free) (hS : va_S A0 H0 H locs) (hA : ∀ q, q < H.size → A1 q → A0 q) (hf : ∀ q, free q → A0 q) (hAX : ∀ q, q < H.size → AX q → A0 q)
    (kx : ∀ (E : String) (ce : Cell) (q9 : Addr) (u : SX) (t : State) (H1 : Heap) (locs1 : List Loc), t.heap = H1 → s.vm.Alike t.vm → px u → BX E u t → H.size ≤ H1.size → (∀ q : Nat, q < H.size → ¬ AX q → H1[q]? = H[q]?) → va_S A0 H0 H1 locs1 → H1[q9]? = some ce → ce.vm = .none → s.vm.findClass E = some ce.cls → vx_W p l e R s m args below meth c H1 locs1 (cells + mc) (slots + ms) Q (F0 m pc ls rest) q9)
    (kk : ∀ (r : Int64) (u : S) (t : State) (H1 : Heap) (locs1 : List Loc), t.heap = H1 → s.vm.Alike t.vm → post r u → B u t → H.size ≤ H1.size → (∀ q : Nat, q < H.size → ¬ A1 q → H1[q]? = H[q]?) → va_S A0 H0 H1 locs1 → W p l e R s m args below meth c H1 locs1 (cells + mc) (slots + ms) Q (F0 m (pc + 3) ls (.long r :: rest))) : W p l e R s m args below meth c H locs cells slots Q (F0 m pc ls st0) := by
  intro T hT X
  rcases hr T hT X with ⟨v, st₀, t, T', L, h0, X', hL, e1, e2, ⟨⟨r, u, hv, hp, hb⟩, hF⟩, st⟩ | ⟨q, st₀, t, T', L, E, ce, h0, X', hL, e1, e2, ⟨u, hp, hb, hF⟩, hce, hcv, hcl, st⟩
  · cases hv
    obtain ⟨k1, k2, k3⟩ := vx_keep h0 e1 hS hA hf hL hF
    obtain ⟨t2, a1, b1⟩ := kk r u t T'.heap (locs ++ L) e1.symm (by rw [← e2]; exact X'.warmed.alike) hp hb k1 k2 k3 T' rfl X'
    exact ⟨t2, st t2 a1, b1⟩
  · obtain ⟨k1, k2, k3⟩ := vx_keep h0 e1 hS hAX hf hL hF
    obtain ⟨t2, a1, b1⟩ := kx E ce q u t T'.heap (locs ++ L) e1.symm (by rw [← e2]; exact X'.warmed.alike) hp hb k1 k2 k3 (by rw [e1]; exact hce) hcv hcl T' rfl X'
    exact ⟨t2, st.trans a1, b1⟩
theorem vx_callf {S SX : Type} {post : UInt32 → S → Prop} {px : SX → Prop} {B : S → State → Prop} {BX : String → SX → State → Prop} {AX : Nat → Prop} (hr : vx_Run p l e R s m args below meth c H locs cells slots mc ms (F0 m pc ls st0) rest (va_Qf post B A1 a) (vx_X px BX AX) free) (hS : va_S A0 H0 H locs) (hA : ∀ q, q < H.size → A1 q → A0 q) (hf : ∀ q, free q → A0 q) (hAX : ∀ q, q < H.size → AX q → A0 q)
    (kx : ∀ (E : String) (ce : Cell) (q9 : Addr) (u : SX) (t : State) (H1 : Heap) (locs1 : List Loc), t.heap = H1 → s.vm.Alike t.vm → px u → BX E u t → H.size ≤ H1.size → (∀ q : Nat, q < H.size → ¬ AX q → H1[q]? = H[q]?) → va_S A0 H0 H1 locs1 → H1[q9]? = some ce → ce.vm = .none → s.vm.findClass E = some ce.cls → vx_W p l e R s m args below meth c H1 locs1 (cells + mc) (slots + ms) Q (F0 m pc ls rest) q9)
    (kk : ∀ (r : UInt32) (u : S) (t : State) (H1 : Heap) (locs1 : List Loc), t.heap = H1 → s.vm.Alike t.vm → post r u → B u t → H.size ≤ H1.size → (∀ q : Nat, q < H.size → ¬ A1 q → H1[q]? = H[q]?) → va_S A0 H0 H1 locs1 → W p l e R s m args below meth c H1 locs1 (cells + mc) (slots + ms) Q (F0 m (pc + 3) ls (.float r :: rest))) : W p l e R s m args below meth c H locs cells slots Q (F0 m pc ls st0) := by
  intro T hT X
  rcases hr T hT X with ⟨v, st₀, t, T', L, h0, X', hL, e1, e2, ⟨⟨r, u, hv, hp, hb⟩, hF⟩, st⟩ | ⟨q, st₀, t, T', L, E, ce, h0, X', hL, e1, e2, ⟨u, hp, hb, hF⟩, hce, hcv, hcl, st⟩
  · cases hv
    obtain ⟨k1, k2, k3⟩ := vx_keep h0 e1 hS hA hf hL hF
    obtain ⟨t2, a1, b1⟩ := kk r u t T'.heap (locs ++ L) e1.symm (by rw [← e2]; exact X'.warmed.alike) hp hb k1 k2 k3 T' rfl X'
    exact ⟨t2, st t2 a1, b1⟩
  · obtain ⟨k1, k2, k3⟩ := vx_keep h0 e1 hS hAX hf hL hF
    obtain ⟨t2, a1, b1⟩ := kx E ce q u t T'.heap (locs ++ L) e1.symm (by rw [← e2]; exact X'.warmed.alike) hp hb k1 k2 k3 (by rw [e1]; exact hce) hcv hcl T' rfl X'
    exact ⟨t2, st.trans a1, b1⟩
theorem vx_calld {S SX : Type} {post : UInt64 → S → Prop} {px : SX → Prop} {B : S → State → Prop} {BX : String → SX → State → Prop} {AX : Nat → Prop} (hr : vx_Run p l e R s m args below meth c H locs cells slots mc ms (F0 m pc ls st0) rest (va_Qd post B A1 a) (vx_X px BX AX) free) (hS : va_S A0 H0 H locs) (hA : ∀ q, q < H.size → A1 q → A0 q) (hf : ∀ q, free q → A0 q) (hAX : ∀ q, q < H.size → AX q → A0 q)
    (kx : ∀ (E : String) (ce : Cell) (q9 : Addr) (u : SX) (t : State) (H1 : Heap) (locs1 : List Loc), t.heap = H1 → s.vm.Alike t.vm → px u → BX E u t → H.size ≤ H1.size → (∀ q : Nat, q < H.size → ¬ AX q → H1[q]? = H[q]?) → va_S A0 H0 H1 locs1 → H1[q9]? = some ce → ce.vm = .none → s.vm.findClass E = some ce.cls → vx_W p l e R s m args below meth c H1 locs1 (cells + mc) (slots + ms) Q (F0 m pc ls rest) q9)
    (kk : ∀ (r : UInt64) (u : S) (t : State) (H1 : Heap) (locs1 : List Loc), t.heap = H1 → s.vm.Alike t.vm → post r u → B u t → H.size ≤ H1.size → (∀ q : Nat, q < H.size → ¬ A1 q → H1[q]? = H[q]?) → va_S A0 H0 H1 locs1 → W p l e R s m args below meth c H1 locs1 (cells + mc) (slots + ms) Q (F0 m (pc + 3) ls (.double r :: rest))) : W p l e R s m args below meth c H locs cells slots Q (F0 m pc ls st0) := by
  intro T hT X
  rcases hr T hT X with ⟨v, st₀, t, T', L, h0, X', hL, e1, e2, ⟨⟨r, u, hv, hp, hb⟩, hF⟩, st⟩ | ⟨q, st₀, t, T', L, E, ce, h0, X', hL, e1, e2, ⟨u, hp, hb, hF⟩, hce, hcv, hcl, st⟩
  · cases hv
    obtain ⟨k1, k2, k3⟩ := vx_keep h0 e1 hS hA hf hL hF
    obtain ⟨t2, a1, b1⟩ := kk r u t T'.heap (locs ++ L) e1.symm (by rw [← e2]; exact X'.warmed.alike) hp hb k1 k2 k3 T' rfl X'
    exact ⟨t2, st t2 a1, b1⟩
  · obtain ⟨k1, k2, k3⟩ := vx_keep h0 e1 hS hAX hf hL hF
    obtain ⟨t2, a1, b1⟩ := kx E ce q u t T'.heap (locs ++ L) e1.symm (by rw [← e2]; exact X'.warmed.alike) hp hb k1 k2 k3 (by rw [e1]; exact hce) hcv hcl T' rfl X'
    exact ⟨t2, st.trans a1, b1⟩
theorem vx_callv {S SX : Type} {post : S → Prop} {px : SX → Prop} {B : S → State → Prop} {BX : String → SX → State → Prop} {AX : Nat → Prop} (hr : vx_Run p l e R s m args below meth c H locs cells slots mc ms (F0 m pc ls st0) rest (va_Qv post B A1 a) (vx_X px BX AX) free) (hS : va_S A0 H0 H locs) (hA : ∀ q, q < H.size → A1 q → A0 q) (hf : ∀ q, free q → A0 q) (hAX : ∀ q, q < H.size → AX q → A0 q)
    (kx : ∀ (E : String) (ce : Cell) (q9 : Addr) (u : SX) (t : State) (H1 : Heap) (locs1 : List Loc), t.heap = H1 → s.vm.Alike t.vm → px u → BX E u t → H.size ≤ H1.size → (∀ q : Nat, q < H.size → ¬ AX q → H1[q]? = H[q]?) → va_S A0 H0 H1 locs1 → H1[q9]? = some ce → ce.vm = .none → s.vm.findClass E = some ce.cls → vx_W p l e R s m args below meth c H1 locs1 (cells + mc) (slots + ms) Q (F0 m pc ls rest) q9)
    (kk : ∀ (u : S) (t : State) (H1 : Heap) (locs1 : List Loc), t.heap = H1 → s.vm.Alike t.vm → post u → B u t → H.size ≤ H1.size → (∀ q : Nat, q < H.size → ¬ A1 q → H1[q]? = H[q]?) → va_S A0 H0 H1 locs1 → W p l e R s m args below meth c H1 locs1 (cells + mc) (slots + ms) Q (F0 m (pc + 3) ls (rest))) : W p l e R s m args below meth c H locs cells slots Q (F0 m pc ls st0) := by
  intro T hT X
  rcases hr T hT X with ⟨v, st₀, t, T', L, h0, X', hL, e1, e2, ⟨⟨u, hv, hp, hb⟩, hF⟩, st⟩ | ⟨q, st₀, t, T', L, E, ce, h0, X', hL, e1, e2, ⟨u, hp, hb, hF⟩, hce, hcv, hcl, st⟩
  · cases hv
    obtain ⟨k1, k2, k3⟩ := vx_keep h0 e1 hS hA hf hL hF
    obtain ⟨t2, a1, b1⟩ := kk u t T'.heap (locs ++ L) e1.symm (by rw [← e2]; exact X'.warmed.alike) hp hb k1 k2 k3 T' rfl X'
    exact ⟨t2, st t2 a1, b1⟩
  · obtain ⟨k1, k2, k3⟩ := vx_keep h0 e1 hS hAX hf hL hF
    obtain ⟨t2, a1, b1⟩ := kx E ce q u t T'.heap (locs ++ L) e1.symm (by rw [← e2]; exact X'.warmed.alike) hp hb k1 k2 k3 (by rw [e1]; exact hce) hcv hcl T' rfl X'
    exact ⟨t2, st.trans a1, b1⟩
/-- caught by the row x of this method's table; the rows ahead don't take it -/
theorem vx_catch {own name : String} {E : String} {ce : Cell} {q : Addr} (hown : s.vm.findClass own = some m.cls) (pre : List ExceptionTableEntry) (x : ExceptionTableEntry) (suf : List ExceptionTableEntry) (hsplit : c.exceptionTable.toList = pre ++ x :: suf)
    (hpass : ∀ z ∈ pre, covers z pc = false ∨ (z.catchType ≠ 0 ∧ ∃ nm : String, (Cond.classLink own z.catchType nm).before args s = true ∧ va_Nc E nm s)) (hx : covers x pc = true) (h0 : x.catchType ≠ 0)
    (hlink : (Cond.classLink own x.catchType name).before args s = true) (hcast : (Cond.castable E name).before args s = true) (hcell : H[q]? = some ce) (hv : ce.vm = .none) (hcl : s.vm.findClass E = some ce.cls)
    (kk : W p l e R s m args below meth c H locs cells slots Q (F0 m x.handlerPc ls [.ref q])) : vx_W p l e R s m args below meth c H locs cells slots Q (F0 m pc ls rest) q := by
  intro T hT X
  have hpl : e.platform.magicAccessors = ({} : Platform).magicAccessors := by rw [X.admits.platform]
  obtain ⟨c3, c4, hc3, hc4, hasg⟩ := Cond.castable_spec hcast
  cases Option.some.inj (hc3.symm.trans hcl)
  obtain ⟨c5, hc5, hcl5⟩ := Cond.classLink_spec hown hlink e.platform hpl
  cases Option.some.inj (hc4.symm.trans hc5)
  obtain ⟨vm', X', st⟩ := X.thenCaughtThrough q (g := F0 m pc ls rest) rfl (Steps.refl _) (by rw [hT]; exact hcell) (by rw [hv]; rfl) (by obtain ⟨k9, h9, -⟩ := Vm.findClass_spec hcl; exact ⟨k9, h9⟩) pre x suf hsplit
    (fun z hz => by
      rcases hpass z hz with h | ⟨hz0, nm, hl1, hn1⟩
      · exact Or.inl h
      · obtain ⟨c6, hc6, hcl6⟩ := Cond.classLink_spec hown hl1 e.platform hpl
        obtain ⟨a8, b8, h1, h2, h3⟩ := hn1
        cases Option.some.inj (h1.symm.trans hcl)
        cases Option.some.inj (h2.symm.trans hc6)
        exact Or.inr ⟨hz0, _, hcl6, h3⟩) hx (Or.inr ⟨h0, c4, hcl5, hasg⟩)
  obtain ⟨t, a1, b1⟩ := kk (T.setVm vm') hT X'
  exact ⟨t, st.trans a1, b1⟩
end Rows
section Ends
variable {p : Program} {l : Launch} {e : Env} {R : Room} {s : State} {m : MethodId} {args : Array Value} {below : List Frame} {meth : Method} {c : Code} {H : Heap} {locs : List Loc} {cells slots : Nat} {Q : State → Prop}
variable {mc ms : Nat} {free : Addr → Prop} {A0 A1 : Nat → Prop} {H0 : Heap} {a : Array Value} {ls : Array Slot} {st0 rest : List Value}
variable {Qc : Array Value → State → Outcome → State → Prop} {XC : String → State → State → Prop}
/-- what a body that may throw owes at its end -/
def vx_MQ (below : List Frame) (Qc : Array Value → State → Outcome → State → Prop) (XC : String → State → State → Prop) (a : Array Value) (s : State) (mc ms : Nat) (free : Addr → Prop) : State → Prop := fun t =>
  ∃ o, t.status = .running ∧ Ended t below o ∧ vx_Q Qc XC mc ms free a s o t
theorem vx_ret {g : JFrame} {mc ms : Nat} (k : W p l e R s m args below meth c H locs cells slots (MQ below Qc args s mc ms free) g) : W p l e R s m args below meth c H locs cells slots (vx_MQ below Qc XC args s mc ms free) g := by
  intro T hT X
  obtain ⟨t, a1, o, b1, b2, b3, b4⟩ := k T hT X
  exact ⟨t, a1, o, b1, b2, Or.inl ⟨b3, b4⟩⟩
/-- not caught here: it goes on to the caller -/
theorem vx_widen {g : JFrame} {q : Addr} {k n : Nat} (h1 : cells ≤ k) (h2 : slots ≤ n) (kk : vx_W p l e R s m args below meth c H locs k n Q g q) : vx_W p l e R s m args below meth c H locs cells slots Q g q := fun T hT X => kk T hT (stand_widen X h1 h2)
theorem vx_out {pc : Nat} {E : String} {ce : Cell} {q : Addr} {mc ms : Nat} (hout : ∀ x ∈ c.exceptionTable.toList, covers x pc = false) (hlocks : meth.locks = false) (hcell : H[q]? = some ce) (hv : ce.vm = .none) (hcl : s.vm.findClass E = some ce.cls)
    (hx : ∀ t : State, t.heap = H → s.vm.Alike t.vm → XC E s t) (hf : ∀ z ∈ locs, free z.base) (hc : cells ≤ mc) (hs : slots ≤ ms) :
    vx_W p l e R s m args below meth c H locs cells slots (vx_MQ below Qc XC args s mc ms free) (F0 m pc ls rest) q := by
  intro T hT X
  obtain ⟨st1, hrun, hend, hW, hsm⟩ := X.leaveThrown q (g := F0 m pc ls rest) rfl rfl rfl hout hlocks
  have hcell9 : (T.setFrames (.throwing q :: below)).heap[q]? = some ce := by
    show T.heap[q]? = some ce
    rw [hT]; exact hcell
  exact ⟨_, st1, .threw q, hrun, hend, Or.inr ⟨q, rfl, E, ce, locs, hx _ hT hW.alike, hcell9, hv, hcl, hW, hsm.mono hc hs, hf⟩⟩
theorem vx_frame {U : State} {k n : Nat} (h : s.sameButNew ({ U with vm := s.vm } : State) locs k n) : s.heap.size ≤ U.heap.size ∧ ∀ q : Nat, q < s.heap.size → (∀ z ∈ locs, z.base ≠ q) → U.heap[q]? = s.heap[q]? := by
  obtain ⟨-, h2, -, -, -, h6⟩ := h
  refine ⟨h2, fun q hq hz => ?_⟩
  obtain ⟨c9, e1, e2, e3, e4⟩ := h6 q _ (Array.getElem?_eq_getElem hq)
  have hs : c9.slots = (s.heap[q]).slots := Array.ext_getElem? fun i => e4 i fun hm => hz _ hm rfl
  have h9 : c9 = s.heap[q] := by
    rw [hs] at e2
    exact e2
  have e5 : U.heap[q]? = some c9 := e1
  rw [e5, h9, Array.getElem?_eq_getElem hq]
/-- the words of a throw but the four that speak of the heap -/
def vx_no (w : Cond) : Bool := decide (w ≠ .isRef (.static Bundle.tN "UNASSIGNED_STACK" Bundle.steD)) && decide (w ≠ .isRef (.static Bundle.tN "SUPPRESSED_SENTINEL" Bundle.listD)) && decide (w ≠ .laysStatic Bundle.tN "UNASSIGNED_STACK" Bundle.steD) && decide (w ≠ .laysStatic Bundle.tN "SUPPRESSED_SENTINEL" Bundle.listD)
def vx_at0 (own : String) (ic : Nat) (X : String) (names : List String) : List Cond := (Bundle.ownAtoms0 own ic X names).filter vx_no
def vx_atS (own : String) (ic : Nat) (X : String) (names : List String) : List Cond := (Bundle.ownAtoms own ic X names).filter vx_no
/-- a word that the tables alone decide, or a good one -/
def vx_ot (w : Cond) : Bool := w.onTables || goodWord w
theorem vx_ot_at {args a' : Array Value} {s U : State} {w : Cond} (hW : s.WarmedH U.vm) (hvm : s.vm = U.vm) (hg : vx_ot w = true) (h : w.before args s = true) : w.before a' U = true := by
  simp only [vx_ot, Bool.or_eq_true] at hg
  rcases hg with hg | hg
  · exact va_tabs hg hvm h
  · exact word_at hW (good_of_word hg) h
/-- a list's words: the good ones out of the method's own list, the others by premises of their own -/
theorem vx_hat {args : Array Value} {s : State} {L B : List Cond} (h1 : ∀ w ∈ L.filter goodWord, w.before args s = true) (h2 : ∀ w ∈ L.filter (fun w => !goodWord w), w ∈ B) (h3 : ∀ w ∈ B, w.before args s = true) : ∀ w ∈ L, w.before args s = true := by
  intro w hw
  by_cases g : goodWord w = true
  · exact h1 w (List.mem_filter.mpr ⟨hw, g⟩)
  · refine h3 w (h2 w (List.mem_filter.mpr ⟨hw, ?_⟩))
    show (!goodWord w) = true
    cases hgw : goodWord w
    · rfl
    · exact absurd hgw g
theorem vx_c {args : Array Value} {s : State} {w : Cond} {B : List Cond} (h : w.before args s = true) (t : ∀ w ∈ B, w.before args s = true) : ∀ w' ∈ w :: B, w'.before args s = true := fun w' h' => (List.mem_cons.mp h').elim (fun e => by rw [e]; exact h) (t w')
theorem vx_n {args : Array Value} {s : State} : ∀ w ∈ ([] : List Cond), w.before args s = true := fun _ h => nomatch h
theorem vx_own {args : Array Value} {s : State} {L : List Cond} (h1 : ∀ w ∈ L.filter vx_no, w.before args s = true)
    (hU : (Cond.isRef (.static Bundle.tN "UNASSIGNED_STACK" Bundle.steD)).before args s = true) (hN : (Cond.isRef (.static Bundle.tN "SUPPRESSED_SENTINEL" Bundle.listD)).before args s = true)
    (lU : (Cond.laysStatic Bundle.tN "UNASSIGNED_STACK" Bundle.steD).before args s = true) (lN : (Cond.laysStatic Bundle.tN "SUPPRESSED_SENTINEL" Bundle.listD).before args s = true) : ∀ w ∈ L, w.before args s = true := by
  intro w hw
  by_cases e1 : w = .isRef (.static Bundle.tN "UNASSIGNED_STACK" Bundle.steD)
  · rw [e1]; exact hU
  · by_cases e2 : w = .isRef (.static Bundle.tN "SUPPRESSED_SENTINEL" Bundle.listD)
    · rw [e2]; exact hN
    · by_cases e3 : w = .laysStatic Bundle.tN "UNASSIGNED_STACK" Bundle.steD
      · rw [e3]; exact lU
      · by_cases e4 : w = .laysStatic Bundle.tN "SUPPRESSED_SENTINEL" Bundle.listD
        · rw [e4]; exact lN
        · exact h1 w (List.mem_filter.mpr ⟨hw, by unfold vx_no; rw [decide_eq_true e1, decide_eq_true e2, decide_eq_true e3, decide_eq_true e4]; rfl⟩)
/-- where a static field lies, its class's statics cell in H -/
def vx_L (C n d : String) (A : Nat → Prop) (U : State) (H : Heap) : Prop := ∃ (c : ClassId) (k : Class) (i : Nat) (f : Field) (a : Nat) (cell : Cell), U.vm.findClass C = some c ∧ U.fieldFound? C n d = some (c, k, i, f) ∧ f.isStatic = true ∧ k.statics = some a ∧ H[a]? = some cell ∧ cell.vm.isStatics = true ∧ cell.cls = c ∧ f.slot < cell.slots.size ∧ k.staticTypes[f.slot]? = some f.type ∧ ¬ A a
theorem vx_L.moved {C n d : String} {A : Nat → Prop} {u U : State} {H : Heap} (hvm : u.vm.Alike U.vm) (h : vx_L C n d A u H) : vx_L C n d A U H := by
  obtain ⟨c, k, i, f, a, cell, h1, h2, h3, h4, h5, h6, h7, h8, h9, h10⟩ := h
  obtain ⟨k', hi', he⟩ := State.fieldFound?_setVm hvm h2
  exact ⟨c, k', i, f, a, cell, by rw [hvm.findClass]; exact h1, hi', h3, by rw [he]; exact h4, h5, h6, h7, h8, by rw [he]; exact h9, h10⟩
theorem vx_L.kept {C n d : String} {A : Nat → Prop} {U : State} {H H1 : Heap} (h : vx_L C n d A U H) (hq : ∀ a : Nat, a < H.size → ¬ A a → H1[a]? = H[a]?) : vx_L C n d A U H1 := by
  obtain ⟨c, k, i, f, a, cell, h1, h2, h3, h4, h5, h6, h7, h8, h9, h10⟩ := h
  exact ⟨c, k, i, f, a, cell, h1, h2, h3, h4, by rw [hq a (Array.getElem?_eq_some_iff.mp h5).1 h10]; exact h5, h6, h7, h8, h9, h10⟩
theorem vx_L.narrow {C n d : String} {A B : Nat → Prop} {U : State} {H : Heap} (h : vx_L C n d A U H) (hAB : ∀ q, B q → A q) : vx_L C n d B U H := by
  obtain ⟨c, k, i, f, a, cell, h1, h2, h3, h4, h5, h6, h7, h8, h9, h10⟩ := h
  exact ⟨c, k, i, f, a, cell, h1, h2, h3, h4, h5, h6, h7, h8, h9, fun z => h10 (hAB _ z)⟩
theorem vx_L.word {C n d : String} {A : Nat → Prop} {s : State} {args : Array Value} (h : vx_L C n d A s s.heap) : (Cond.laysStatic C n d).before args s = true := by
  obtain ⟨c, k, i, f, a, cell, h1, h2, h3, h4, h5, h6, h7, h8, h9, -⟩ := h
  show (Cond.laysStatic C n d).holds args s none s [] = true
  exact Cond.laysStatic_of h1 h2 h3 h4 h5 h6 h7 h8 h9
/-- .. and what it holds: null or some reference -/
def vx_Zq (C n d : String) (A : Nat → Prop) (U : State) (H : Heap) : Prop := va_Zq C n d A U H ∧ vx_L C n d A U H
theorem vx_Zq.moved {C n d : String} {A : Nat → Prop} {u U : State} {H : Heap} (hvm : u.vm.Alike U.vm) (h : vx_Zq C n d A u H) : vx_Zq C n d A U H := ⟨va_Zq.moved hvm h.1, vx_L.moved hvm h.2⟩
theorem vx_Zq.kept {C n d : String} {A : Nat → Prop} {U : State} {H H1 : Heap} (h : vx_Zq C n d A U H) (hq : ∀ a : Nat, a < H.size → ¬ A a → H1[a]? = H[a]?) : vx_Zq C n d A U H1 := ⟨va_Zq.kept h.1 hq, vx_L.kept h.2 hq⟩
theorem vx_Zq.narrow {C n d : String} {A B : Nat → Prop} {U : State} {H : Heap} (h : vx_Zq C n d A U H) (hAB : ∀ q, B q → A q) : vx_Zq C n d B U H := ⟨va_Zq.narrow h.1 hAB, vx_L.narrow h.2 hAB⟩
theorem vx_Zqof {args : Array Value} {s : State} {C n d : String} {A : Nat → Prop} (hl : (Cond.laysStatic C n d).before args s = true) (hini : (Cond.initialized C).before args s = true) (h : (Cond.isRef (.static C n d)).before args s = true) (hA : ∀ a : Nat, a < s.heap.size → ¬ A a) : vx_Zq C n d A s s.heap := by
  refine ⟨va_Zqof hl hini h hA, ?_⟩
  obtain ⟨c, k, i, f, a, cell, h1, h2, h3, h4, h5, h6, h7, h8, h9⟩ := Cond.laysStatic_spec hl
  exact ⟨c, k, i, f, a, cell, h1, h2, h3, h4, h5, h6, h7, h8, h9, hA a (Array.getElem?_eq_some_iff.mp h5).1⟩
theorem vx_isRef {C n d : String} {v : Value} {A : Nat → Prop} {s : State} {args : Array Value} (h : va_Z C n d v A s s.heap) (hv : v.isRef = true) : (Cond.isRef (.static C n d)).before args s = true := by
  obtain ⟨cf, kf, fi, f, a, cell, h1, h2, h3, h4, h5, h6, h7, -⟩ := h
  have he : (Term.static C n d).eval args s none [] s = some v := by
    simp [Term.eval, State.fieldNamed?, h1, h2, h4, h5, h6, h7]
  simp only [Cond.before, Cond.holds, Cond.value, he]
  cases v <;> simp_all [Value.isRef]
theorem vx_isRefq {C n d : String} {A : Nat → Prop} {s : State} {args : Array Value} (h : va_Zq C n d A s s.heap) : (Cond.isRef (.static C n d)).before args s = true := by
  rcases h with h | ⟨t, h⟩
  · exact vx_isRef h rfl
  · exact vx_isRef h rfl
/-- the same frame, seen from here: as if the method were called anew in this heap -/
theorem vx_rebase {T : State} (X : Stand p l e R s m args below meth c T locs cells slots) {R' : Room} (hf : R'.frames ≤ R.frames) (hl : R'.locals ≤ R.locals) (hc : cells + R'.cells ≤ R.cells) (hs : slots + R'.slots ≤ R.slots) :
    Stand p l e R' ((T.setVm s.vm).setFrames (.invoking m args :: below)) m args below meth c T [] 0 0 := by
  have htop : (T.setVm s.vm).topJava?.isSome := X.here.top
  have hF : ((T.setVm s.vm).setFrames (.invoking m args :: below)).frames = .invoking m args :: below := State.frames_setFrames _ (State.cur_lt_of_top htop)
  obtain ⟨g₀, hg0⟩ := Option.isSome_iff_exists.mp htop
  obtain ⟨r, hr⟩ := State.topJava?_eq_some.mp hg0
  have hl9 : e.platform.stackLimits (T.setVm s.vm).me = e.platform.stackLimits s.me := X.limits
  have hb9 : (T.setVm s.vm).me.stackBytes = s.me.stackBytes := X.bytes
  refine ⟨X.admits, X.cas, X.clock, hF, ?_, X.hears, X.method, X.code, X.here, X.tail, X.warmed, ?_, ?_, ?_⟩
  · have h := X.room
    have hU : ((T.setVm s.vm).setFrames (.invoking m args :: below)).localsInUse = s.localsInUse := by
      rw [State.localsInUse_invoking hF (meth := meth) (c := c) X.method X.code, State.localsInUse_invoking X.frames X.method X.code]
    simp only [State.hasRoom, Bool.and_eq_true, decide_eq_true_eq] at h ⊢
    obtain ⟨⟨⟨⟨h1, h2, h3, h4, h5, h6⟩, h7⟩, h8⟩, h9⟩ := h
    rw [X.frames, List.length_cons] at h2 h3
    have q1 := X.heapSize
    have q2 := X.used
    simp only [hF, hU, List.length_cons, State.stackLimits_setFrames, State.stackBytes_setFrames, hl9, hb9]
    refine ⟨⟨⟨⟨by omega, by omega, by omega, by omega, by omega, h6⟩, ?_⟩, ?_⟩, X.book⟩
    · show T.heap.size + R'.cells ≤ e.platform.maxCells
      omega
    · show T.slotsUsed + R'.slots ≤ e.platform.maxSlots
      omega
  · rw [State.stackLimits_setFrames]; rfl
  · rw [State.stackBytes_setFrames]; rfl
  · refine ⟨?_, Nat.le_refl _, Nat.le_refl _, ?_, ?_, fun a c9 h9 => ⟨c9, h9, rfl, rfl, fun _ _ => rfl⟩⟩
    · obtain ⟨t, ht, -⟩ := State.frames_cons hr
      show T.setVm s.vm = { ((T.setVm s.vm).setFrames (.invoking m args :: below)).setFrames (T.setVm s.vm).frames with heap := T.heap, slotsUsed := T.slotsUsed }
      rw [State.setFrames_setFrames, State.setFrames_self ht]
      rfl
    · show T.slotsUsed = T.slotsUsed + ((T.heap.toList.drop T.heap.size).map (·.slots.size)).sum
      rw [List.drop_eq_nil_of_le (Nat.le_of_eq Array.length_toList)]
      rfl
    · show ((T.heap.toList.drop T.heap.size).map (·.slots.size)).sum ≤ 0
      rw [List.drop_eq_nil_of_le (Nat.le_of_eq Array.length_toList)]
      exact Nat.le_refl _
/-- 'throw new E()': new; dup; invokespecial; athrow -/
theorem vx_throw0 {cc : ByteArray} {pc : Nat} (hexec : p.tables.exec = Jvm.exec) (hb : c.code = cc) (hl : l.stackTraces = false) {own cls : String} {names : List String} {ik ic mc ms : Nat} {A : Nat → Prop}
    (hown : s.vm.findClass own = some m.cls) (hcls : Bundle.fit cls = true) (hnames : ∀ n ∈ names, Bundle.fit n = true)
    (hk : (Cond.classLink own ik cls).before args s = true) (hini : (Cond.initialized cls).before args s = true) (hat : ∀ w ∈ vx_at0 own ic cls names, w.before args s = true)
    (hgood : ∀ w ∈ Cond.classLink own ik cls :: Cond.initialized cls :: vx_at0 own ic cls names, vx_ot w = true)
    (hU : vx_Zq Bundle.tN "UNASSIGNED_STACK" Bundle.steD A s s.heap) (hN : vx_Zq Bundle.tN "SUPPRESSED_SENTINEL" Bundle.listD A s s.heap) (hS : va_S A s.heap H locs) (hsize : ls.size = c.maxLocals)
    (d0 : decode cc pc = .ok (.new ik, 3)) (d3 : decode cc (pc + 3) = .ok (.dup, 1)) (d4 : decode cc (pc + 4) = .ok (.invokespecial ic, 3)) (d7 : decode cc (pc + 7) = .ok (.athrow, 1))
    (hout : ∀ x ∈ c.exceptionTable.toList, covers x (pc + 7) = false)
    (hRframes : names.length + 3 < R.frames) (hRlocals : (rest.map fun v => v.category).sum + (13 * (names.length + 1) + 42) ≤ R.locals) (hRcells : cells + 1 ≤ R.cells) (hRslots : slots + 6 ≤ R.slots) (hlocks : meth.locks = false)
    (hx : ∀ t : State, s.vm.Alike t.vm → H.size ≤ t.heap.size → (∀ q : Nat, q < H.size → t.heap[q]? = H[q]?) → XC cls s t)
    (hf : ∀ z ∈ locs, free z.base) (hc : cells + 1 ≤ mc) (hs : slots + 6 ≤ ms) :
    W p l e R s m args below meth c H locs cells slots (vx_MQ below Qc XC args s mc ms free) (F0 m pc ls rest) := by
  intro T hT X
  have htr : e.platform.stackTraces = false := (show e.platform.stackTraces = l.stackTraces by rw [X.admits.platform]).trans hl
  have Y := vx_rebase X (R' := { frames := R.frames, locals := R.locals, cells := 1, slots := 6 }) (Nat.le_refl _) (Nat.le_refl _) hRcells hRslots
  obtain ⟨s', hA⟩ : ∃ z, z = (T.setVm s.vm).setFrames (.invoking m args :: below) := ⟨_, rfl⟩
  rw [← hA] at Y
  have hvm : s'.vm = s.vm := by rw [hA]; rfl
  have hhp : s'.heap = H := by rw [hA]; exact hT
  have hW0 : s.WarmedH s'.vm := by rw [hvm]; exact State.WarmedH.refl s
  have hat' : ∀ w ∈ vx_at0 own ic cls names, w.before args s' = true := fun w hw => vx_ot_at hW0 hvm.symm (hgood w (List.mem_cons_of_mem _ (List.mem_cons_of_mem _ hw))) (hat w hw)
  have hk' : (Cond.classLink own ik cls).before args s' = true := vx_ot_at hW0 hvm.symm (hgood _ List.mem_cons_self) hk
  have hini' : (Cond.initialized cls).before args s' = true := vx_ot_at hW0 hvm.symm (hgood _ (List.mem_cons_of_mem _ List.mem_cons_self)) hini
  have hU' : vx_Zq Bundle.tN "UNASSIGNED_STACK" Bundle.steD A s' s'.heap := by rw [hhp]; exact vx_Zq.moved hW0.alike (hU.kept hS.2.1)
  have hN' : vx_Zq Bundle.tN "SUPPRESSED_SENTINEL" Bundle.listD A s' s'.heap := by rw [hhp]; exact vx_Zq.moved hW0.alike (hN.kept hS.2.1)
  have h : ∀ w ∈ Bundle.ownAtoms0 own ic cls names, w.before args s' = true := vx_own hat' (vx_isRefq hU'.1) (vx_isRefq hN'.1) hU'.2.word hN'.2.word
  have hown' : s'.vm.findClass own = some m.cls := by rw [hvm]; exact hown
  have hins : (Cond.instantiable cls 6).before args s' = true := h _ (by simp [Bundle.ownAtoms0])
  obtain ⟨vm₁, cX, kX, hfX, hkX, -, -, X₁, st1⟩ := Y.newCold hexec (own := own) (C := cls) (index := ik) (n := 6) hown' hk' hins hini'
    (g := F0 m pc ls rest) rfl (by rw [hb]; exact d0) (Nat.le_refl _) (Nat.le_refl _)
  generalize hT1 : (T.setVm vm₁).pushCell { cls := cX, slots := kX.instanceTypes.map defaultValue, vm := .none } = T1 at X₁ st1
  have hcat : (Value.ref T.heap.size).category = 1 := rfl
  have hcellA : T1.heap[T.heap.size]? = some (freshCell cX kX) := by rw [← hT1]; exact State.heap_pushCell_size _ _
  have d3' : decode c.code (pc + 3) = .ok (.dup, 1) := by rw [hb]; exact d3
  obtain ⟨U, hsteps, hrun, hend, hW, hsame, ce, hce, hO⟩ := X₁.ctorThrow0 hexec htr (own := own) (cls := cls) (names := names) (ic := ic) hown' hcls hnames h (fun x hx => nomatch hx) hfX hkX hcellA (by rw [hhp, hT]; exact Nat.le_refl _)
    (g := { method := m, pc := pc + 4, locals := ls, stack := .ref T.heap.size :: .ref T.heap.size :: rest, locked := none }) rfl hsize rfl rfl (rest := rest) rfl
    (by rw [hb]; exact d4) (by rw [hb]; exact d7) hout hRframes (by simp only [List.map_cons, List.sum_cons, hcat]; omega) hlocks
  obtain ⟨f1, f2⟩ := vx_frame hsame
  rw [hhp] at f1 f2
  have hWs : s.WarmedH U.vm := State.WarmedH.trans hW0 hW
  have hcl : s.vm.findClass cls = some ce.cls := by
    have h9 := hO.cls
    rw [hvm] at h9
    exact h9
  have hall : s.sameButNew ({ U with vm := s.vm } : State) locs mc ms := by
    subst hA
    obtain ⟨e1, e2⟩ := hsame
    rw [State.setFrames_setFrames] at e1
    have h2 : (T.setVm s.vm).sameButNew ({ U with vm := s.vm } : State) [] (0 + 1) (0 + 6) := ⟨e1, e2⟩
    have h3 := X.same.trans h2
    rw [List.append_nil] at h3
    exact h3.mono hc hs
  refine ⟨U, ?_, .threw T.heap.size, hrun, hend, Or.inr ⟨T.heap.size, rfl, cls, ce, locs, hx U hWs.alike f1 (fun q hq => f2 q hq (fun z hz => nomatch hz)), hce, hO.vm, hcl, hWs, hall, hf⟩⟩
  refine st1 _ ?_
  show Steps p.tables e below (T1.setTop { method := m, pc := pc + 3, locals := ls, stack := .ref T.heap.size :: rest, locked := none }) _
  jvm_step X₁.here [X₁.here.top, hexec, d3', Value.category]
  exact hsteps
/-- 'throw new E("text")': new; dup; ldc; invokespecial; athrow -/
theorem vx_throwS {cc : ByteArray} {pc : Nat} (hexec : p.tables.exec = Jvm.exec) (hb : c.code = cc) (hl : l.stackTraces = false) {own cls text : String} {names : List String} {ik is ic mc ms sa : Nat} {A : Nat → Prop}
    (hown : s.vm.findClass own = some m.cls) (hcls : Bundle.fit cls = true) (hnames : ∀ n ∈ names, Bundle.fit n = true)
    (hk : (Cond.classLink own ik cls).before args s = true) (hini : (Cond.initialized cls).before args s = true) (hstr : vk_R own is text sa s) (hat : ∀ w ∈ vx_atS own ic cls names, w.before args s = true)
    (hgood : ∀ w ∈ Cond.classLink own ik cls :: Cond.initialized cls :: vx_atS own ic cls names, vx_ot w = true)
    (hU : vx_Zq Bundle.tN "UNASSIGNED_STACK" Bundle.steD A s s.heap) (hN : vx_Zq Bundle.tN "SUPPRESSED_SENTINEL" Bundle.listD A s s.heap) (hS : va_S A s.heap H locs) (hsize : ls.size = c.maxLocals)
    (d0 : decode cc pc = .ok (.new ik, 3)) (d3 : decode cc (pc + 3) = .ok (.dup, 1)) (d4 : decode cc (pc + 4) = .ok (.ldc is, 2)) (d6 : decode cc (pc + 6) = .ok (.invokespecial ic, 3)) (d9 : decode cc (pc + 9) = .ok (.athrow, 1))
    (hout : ∀ x ∈ c.exceptionTable.toList, covers x (pc + 9) = false)
    (hRframes : names.length + 3 < R.frames) (hRlocals : (rest.map fun v => v.category).sum + (13 * (names.length + 1) + 43) ≤ R.locals) (hRcells : cells + 1 ≤ R.cells) (hRslots : slots + 6 ≤ R.slots) (hlocks : meth.locks = false)
    (hx : ∀ t : State, s.vm.Alike t.vm → H.size ≤ t.heap.size → (∀ q : Nat, q < H.size → t.heap[q]? = H[q]?) → XC cls s t)
    (hf : ∀ z ∈ locs, free z.base) (hc : cells + 1 ≤ mc) (hs : slots + 6 ≤ ms) :
    W p l e R s m args below meth c H locs cells slots (vx_MQ below Qc XC args s mc ms free) (F0 m pc ls rest) := by
  intro T hT X
  have htr : e.platform.stackTraces = false := (show e.platform.stackTraces = l.stackTraces by rw [X.admits.platform]).trans hl
  have Y := vx_rebase X (R' := { frames := R.frames, locals := R.locals, cells := 1, slots := 6 }) (Nat.le_refl _) (Nat.le_refl _) hRcells hRslots
  obtain ⟨s', hA⟩ : ∃ z, z = (T.setVm s.vm).setFrames (.invoking m args :: below) := ⟨_, rfl⟩
  rw [← hA] at Y
  have hvm : s'.vm = s.vm := by rw [hA]; rfl
  have hhp : s'.heap = H := by rw [hA]; exact hT
  have hW0 : s.WarmedH s'.vm := by rw [hvm]; exact State.WarmedH.refl s
  have hat' : ∀ w ∈ vx_atS own ic cls names, w.before args s' = true := fun w hw => vx_ot_at hW0 hvm.symm (hgood w (List.mem_cons_of_mem _ (List.mem_cons_of_mem _ hw))) (hat w hw)
  have hk' : (Cond.classLink own ik cls).before args s' = true := vx_ot_at hW0 hvm.symm (hgood _ List.mem_cons_self) hk
  have hini' : (Cond.initialized cls).before args s' = true := vx_ot_at hW0 hvm.symm (hgood _ (List.mem_cons_of_mem _ List.mem_cons_self)) hini
  have hU' : vx_Zq Bundle.tN "UNASSIGNED_STACK" Bundle.steD A s' s'.heap := by rw [hhp]; exact vx_Zq.moved hW0.alike (hU.kept hS.2.1)
  have hN' : vx_Zq Bundle.tN "SUPPRESSED_SENTINEL" Bundle.listD A s' s'.heap := by rw [hhp]; exact vx_Zq.moved hW0.alike (hN.kept hS.2.1)
  have h : ∀ w ∈ Bundle.ownAtoms own ic cls names, w.before args s' = true := vx_own hat' (vx_isRefq hU'.1) (vx_isRefq hN'.1) hU'.2.word hN'.2.word
  have hown' : s'.vm.findClass own = some m.cls := by rw [hvm]; exact hown
  have hins : (Cond.instantiable cls 6).before args s' = true := h _ (by simp [Bundle.ownAtoms])
  obtain ⟨vm₁, cX, kX, hfX, hkX, -, -, X₁, st1⟩ := Y.newCold hexec (own := own) (C := cls) (index := ik) (n := 6) hown' hk' hins hini'
    (g := F0 m pc ls rest) rfl (by rw [hb]; exact d0) (Nat.le_refl _) (Nat.le_refl _)
  generalize hT1 : (T.setVm vm₁).pushCell { cls := cX, slots := kX.instanceTypes.map defaultValue, vm := .none } = T1 at X₁ st1
  have hcat : (Value.ref T.heap.size).category = 1 := rfl
  have hcellA : T1.heap[T.heap.size]? = some (freshCell cX kX) := by rw [← hT1]; exact State.heap_pushCell_size _ _
  have d3' : decode c.code (pc + 3) = .ok (.dup, 1) := by rw [hb]; exact d3
  have d4' : decode c.code (pc + 4) = .ok (.ldc is, 2) := by rw [hb]; exact d4
  have hstr' : vk_R own is text sa s' := vk_R.warm hW0 hstr
  obtain ⟨U, hsteps, hrun, hend, hW, hsame, ce, hce, hO⟩ := X₁.ctorThrowS hexec htr (own := own) (cls := cls) (names := names) (ic := ic) hown' hcls hnames h (fun x hx => nomatch hx) hfX hkX hcellA (by rw [hhp, hT]; exact Nat.le_refl _) (msg := .ref sa) rfl
    (g := { method := m, pc := pc + 6, locals := ls, stack := .ref sa :: .ref T.heap.size :: .ref T.heap.size :: rest, locked := none }) rfl hsize rfl rfl (rest := rest) rfl
    (by rw [hb]; exact d6) (by rw [hb]; exact d9) hout hRframes (by simp only [List.map_cons, List.sum_cons, hcat]; omega) hlocks
  obtain ⟨f1, f2⟩ := vx_frame hsame
  rw [hhp] at f1 f2
  have hWs : s.WarmedH U.vm := State.WarmedH.trans hW0 hW
  have hcl : s.vm.findClass cls = some ce.cls := by
    have h9 := hO.cls
    rw [hvm] at h9
    exact h9
  have hall : s.sameButNew ({ U with vm := s.vm } : State) locs mc ms := by
    subst hA
    obtain ⟨e1, e2⟩ := hsame
    rw [State.setFrames_setFrames] at e1
    have h2 : (T.setVm s.vm).sameButNew ({ U with vm := s.vm } : State) [] (0 + 1) (0 + 6) := ⟨e1, e2⟩
    have h3 := X.same.trans h2
    rw [List.append_nil] at h3
    exact h3.mono hc hs
  refine ⟨U, ?_, .threw T.heap.size, hrun, hend, Or.inr ⟨T.heap.size, rfl, cls, ce, locs, hx U hWs.alike f1 (fun q hq => f2 q hq (fun z hz => nomatch hz)), hce, hO.vm, hcl, hWs, hall, hf⟩⟩
  refine st1 _ ?_
  show Steps p.tables e below (T1.setTop { method := m, pc := pc + 3, locals := ls, stack := .ref T.heap.size :: rest, locked := none }) _
  jvm_step X₁.here [X₁.here.top, hexec, d3', Value.category]
  exact X₁.ldcString hexec (own := own) (text := text) (index := is) (a := sa) hown' hstr'.1 hstr'.2
    (g := { method := m, pc := pc + 4, locals := ls, stack := .ref T.heap.size :: .ref T.heap.size :: rest, locked := none }) rfl d4' _ hsteps
/-- 'throw new E("text")', the text by a wide index -/
theorem vx_throwSW {cc : ByteArray} {pc : Nat} (hexec : p.tables.exec = Jvm.exec) (hb : c.code = cc) (hl : l.stackTraces = false) {own cls text : String} {names : List String} {ik is ic mc ms sa : Nat} {A : Nat → Prop}
    (hown : s.vm.findClass own = some m.cls) (hcls : Bundle.fit cls = true) (hnames : ∀ n ∈ names, Bundle.fit n = true)
    (hk : (Cond.classLink own ik cls).before args s = true) (hini : (Cond.initialized cls).before args s = true) (hstr : vk_R own is text sa s) (hat : ∀ w ∈ vx_atS own ic cls names, w.before args s = true)
    (hgood : ∀ w ∈ Cond.classLink own ik cls :: Cond.initialized cls :: vx_atS own ic cls names, vx_ot w = true)
    (hU : vx_Zq Bundle.tN "UNASSIGNED_STACK" Bundle.steD A s s.heap) (hN : vx_Zq Bundle.tN "SUPPRESSED_SENTINEL" Bundle.listD A s s.heap) (hS : va_S A s.heap H locs) (hsize : ls.size = c.maxLocals)
    (d0 : decode cc pc = .ok (.new ik, 3)) (d3 : decode cc (pc + 3) = .ok (.dup, 1)) (d4 : decode cc (pc + 4) = .ok (.ldc_w is, 3)) (d7 : decode cc (pc + 7) = .ok (.invokespecial ic, 3)) (d10 : decode cc (pc + 10) = .ok (.athrow, 1))
    (hout : ∀ x ∈ c.exceptionTable.toList, covers x (pc + 10) = false)
    (hRframes : names.length + 3 < R.frames) (hRlocals : (rest.map fun v => v.category).sum + (13 * (names.length + 1) + 43) ≤ R.locals) (hRcells : cells + 1 ≤ R.cells) (hRslots : slots + 6 ≤ R.slots) (hlocks : meth.locks = false)
    (hx : ∀ t : State, s.vm.Alike t.vm → H.size ≤ t.heap.size → (∀ q : Nat, q < H.size → t.heap[q]? = H[q]?) → XC cls s t)
    (hf : ∀ z ∈ locs, free z.base) (hc : cells + 1 ≤ mc) (hs : slots + 6 ≤ ms) :
    W p l e R s m args below meth c H locs cells slots (vx_MQ below Qc XC args s mc ms free) (F0 m pc ls rest) := by
  intro T hT X
  have htr : e.platform.stackTraces = false := (show e.platform.stackTraces = l.stackTraces by rw [X.admits.platform]).trans hl
  have Y := vx_rebase X (R' := { frames := R.frames, locals := R.locals, cells := 1, slots := 6 }) (Nat.le_refl _) (Nat.le_refl _) hRcells hRslots
  obtain ⟨s', hA⟩ : ∃ z, z = (T.setVm s.vm).setFrames (.invoking m args :: below) := ⟨_, rfl⟩
  rw [← hA] at Y
  have hvm : s'.vm = s.vm := by rw [hA]; rfl
  have hhp : s'.heap = H := by rw [hA]; exact hT
  have hW0 : s.WarmedH s'.vm := by rw [hvm]; exact State.WarmedH.refl s
  have hat' : ∀ w ∈ vx_atS own ic cls names, w.before args s' = true := fun w hw => vx_ot_at hW0 hvm.symm (hgood w (List.mem_cons_of_mem _ (List.mem_cons_of_mem _ hw))) (hat w hw)
  have hk' : (Cond.classLink own ik cls).before args s' = true := vx_ot_at hW0 hvm.symm (hgood _ List.mem_cons_self) hk
  have hini' : (Cond.initialized cls).before args s' = true := vx_ot_at hW0 hvm.symm (hgood _ (List.mem_cons_of_mem _ List.mem_cons_self)) hini
  have hU' : vx_Zq Bundle.tN "UNASSIGNED_STACK" Bundle.steD A s' s'.heap := by rw [hhp]; exact vx_Zq.moved hW0.alike (hU.kept hS.2.1)
  have hN' : vx_Zq Bundle.tN "SUPPRESSED_SENTINEL" Bundle.listD A s' s'.heap := by rw [hhp]; exact vx_Zq.moved hW0.alike (hN.kept hS.2.1)
  have h : ∀ w ∈ Bundle.ownAtoms own ic cls names, w.before args s' = true := vx_own hat' (vx_isRefq hU'.1) (vx_isRefq hN'.1) hU'.2.word hN'.2.word
  have hown' : s'.vm.findClass own = some m.cls := by rw [hvm]; exact hown
  have hins : (Cond.instantiable cls 6).before args s' = true := h _ (by simp [Bundle.ownAtoms])
  obtain ⟨vm₁, cX, kX, hfX, hkX, -, -, X₁, st1⟩ := Y.newCold hexec (own := own) (C := cls) (index := ik) (n := 6) hown' hk' hins hini'
    (g := F0 m pc ls rest) rfl (by rw [hb]; exact d0) (Nat.le_refl _) (Nat.le_refl _)
  generalize hT1 : (T.setVm vm₁).pushCell { cls := cX, slots := kX.instanceTypes.map defaultValue, vm := .none } = T1 at X₁ st1
  have hcat : (Value.ref T.heap.size).category = 1 := rfl
  have hcellA : T1.heap[T.heap.size]? = some (freshCell cX kX) := by rw [← hT1]; exact State.heap_pushCell_size _ _
  have d3' : decode c.code (pc + 3) = .ok (.dup, 1) := by rw [hb]; exact d3
  have d4' : decode c.code (pc + 4) = .ok (.ldc_w is, 3) := by rw [hb]; exact d4
  have hstr' : vk_R own is text sa s' := vk_R.warm hW0 hstr
  obtain ⟨U, hsteps, hrun, hend, hW, hsame, ce, hce, hO⟩ := X₁.ctorThrowS hexec htr (own := own) (cls := cls) (names := names) (ic := ic) hown' hcls hnames h (fun x hx => nomatch hx) hfX hkX hcellA (by rw [hhp, hT]; exact Nat.le_refl _) (msg := .ref sa) rfl
    (g := { method := m, pc := pc + 7, locals := ls, stack := .ref sa :: .ref T.heap.size :: .ref T.heap.size :: rest, locked := none }) rfl hsize rfl rfl (rest := rest) rfl
    (by rw [hb]; exact d7) (by rw [hb]; exact d10) hout hRframes (by simp only [List.map_cons, List.sum_cons, hcat]; omega) hlocks
  obtain ⟨f1, f2⟩ := vx_frame hsame
  rw [hhp] at f1 f2
  have hWs : s.WarmedH U.vm := State.WarmedH.trans hW0 hW
  have hcl : s.vm.findClass cls = some ce.cls := by
    have h9 := hO.cls
    rw [hvm] at h9
    exact h9
  have hall : s.sameButNew ({ U with vm := s.vm } : State) locs mc ms := by
    subst hA
    obtain ⟨e1, e2⟩ := hsame
    rw [State.setFrames_setFrames] at e1
    have h2 : (T.setVm s.vm).sameButNew ({ U with vm := s.vm } : State) [] (0 + 1) (0 + 6) := ⟨e1, e2⟩
    have h3 := X.same.trans h2
    rw [List.append_nil] at h3
    exact h3.mono hc hs
  refine ⟨U, ?_, .threw T.heap.size, hrun, hend, Or.inr ⟨T.heap.size, rfl, cls, ce, locs, hx U hWs.alike f1 (fun q hq => f2 q hq (fun z hz => nomatch hz)), hce, hO.vm, hcl, hWs, hall, hf⟩⟩
  refine st1 _ ?_
  show Steps p.tables e below (T1.setTop { method := m, pc := pc + 3, locals := ls, stack := .ref T.heap.size :: rest, locked := none }) _
  jvm_step X₁.here [X₁.here.top, hexec, d3', Value.category]
  exact X₁.ldcStringW hexec (own := own) (text := text) (index := is) (a := sa) hown' hstr'.1 hstr'.2
    (g := { method := m, pc := pc + 4, locals := ls, stack := .ref T.heap.size :: .ref T.heap.size :: rest, locked := none }) rfl d4' _ hsteps
end Ends
section Bodies
variable {l : Launch}
theorem vx_ofW {y : MethodName} {ws ws' : List Cond} {rm : Room} {Pc : Array Value → State → Prop} {Qc : Array Value → State → Outcome → State → Prop} {XC : String → State → State → Prop} {mc ms : Nat} {free : Addr → Prop} {cc : ByteArray} {maxL : Nat} {ret : Option FieldType}
    (hy : plainName y.cls = true) (hw : ws = Cond.code y cc maxL ret :: ws')
    (body : ∀ p e s m args below meth c s₁, BodyLoose p l y (headSpec ws rm) cc maxL ret e s m args below meth c s₁ → c.maxLocals = maxL → (∀ x ∈ c.exceptionTable.toList, False) → Pc args s →
      W p l e (headSpec ws rm).room s m args below meth c s.heap [] 0 0 (vx_MQ below Qc XC args s mc ms free) (entryFrame m args maxL)) : vx_Met l y ws rm Pc Qc XC mc ms free := by
  refine MetFree.of_bodyS (code := cc) (maxLocals := maxL) (ret := ret) hy ?_ ?_
  · intro args s m h hn
    obtain ⟨meth, c, h1, h2, h3, h4, h5, h6, -, -⟩ := Cond.code_spec hn (atoms_spec (ws := ws) h _ (by rw [hw]; exact List.mem_cons_self))
    exact ⟨meth, c, h1, h2, h3, h4, h5, h6⟩
  · intro p e s m args below meth c s₁ B hml hP _
    have hh0 : s₁.heap = s.heap := by rw [B.state]; rfl
    have ht : ∀ x ∈ c.exceptionTable.toList, False := by
      obtain ⟨meth9, c9, h1, h2, -, -, -, -, h7, -⟩ := Cond.code_spec B.named (atoms_spec (ws := ws) B.pre _ (by rw [hw]; exact List.mem_cons_self))
      cases Option.some.inj (h1.symm.trans B.method)
      cases Option.some.inj (h2.symm.trans (Stand.of_body B).code)
      intro x hx
      rw [Array.isEmpty_iff.mp h7] at hx
      cases hx
    obtain ⟨t, a1, o, b1, b2, b3⟩ := body p e s m args below meth c s₁ B hml ht hP s₁ hh0 (Stand.of_body B)
    exact ⟨t, o, a1, b1, b2, b3⟩
/-- the table of a body with handlers -/
theorem vx_table {p : Program} {x y : MethodName} {S : Spec} {cc bytes : ByteArray} {maxL maxL' : Nat} {ret ret' : Option FieldType} {e : Env} {s s₁ : State} {m : MethodId} {args : Array Value} {below : List Frame} {meth : Method} {c : Code} {hh : List (Nat × Nat × Nat × Nat)}
    (B : BodyLoose p l y S cc maxL ret e s m args below meth c s₁) (h : (Cond.codeWith y bytes maxL' ret' hh).before args s = true) : c.exceptionTable.toList = tableOf hh := by
  obtain ⟨m9, meth9, c9, hn9, h1, h2, -, -, h6, -⟩ := Cond.codeWith_spec h
  cases Option.some.inj (hn9.symm.trans B.named)
  cases Option.some.inj (h1.symm.trans B.method)
  cases Option.some.inj (h2.symm.trans (Stand.of_body B).code)
  rw [← h6, table_eq]
end Bodies
end VXA
/-! ===== END ===== -/
/-! ===== BEGIN a static call of a method with an exception table ===== -/
section VXS
variable {p : Program} {l : Launch} {e : Env} {R : Room} {s : State} {m : MethodId} {args : Array Value} {below : List Frame} {meth : Method} {c : Code} {T : State} {H : Heap} {locs : List Loc} {cells slots : Nat}
abbrev vx_CSW (R : Room) (s : State) (args : Array Value) (own : String) (index : Nat) (y : MethodName) (bytes : ByteArray) (maxL : Nat) (ret : Option FieldType) (hh : List (Nat × Nat × Nat × Nat)) (ws : List Cond) (rm : Room) (mc ms n : Nat) : Prop :=
  (rm.cells = mc ∧ rm.slots = ms ∧ rm.frames + 1 ≤ R.frames ∧ 8 + (maxL + 11) + rm.locals ≤ R.locals ∧ (∀ w ∈ ws, ∀ (a' : Array Value) (U : State), s.WarmedH U.vm → w.before a' U = true) ∧ Cond.codeWith y bytes maxL ret hh ∈ ws) ∧
  (Cond.codeWith y bytes maxL ret hh).before args s = true ∧ (Cond.initialized y.cls).before args s = true ∧ (y.cls ≠ "java/lang/invoke/MethodHandle" ∧ y.cls ≠ "java/lang/invoke/VarHandle") ∧
  (∀ sig, parseMethodDescriptor y.desc = some sig → n = sig.parameters.length) ∧ (Cond.methodLink own index y).before args s = true ∧ (Cond.static y).before args s = true
theorem vx_cwSW {own : String} {index maxL mc ms : Nat} {y : MethodName} {bytes : ByteArray} {ret : Option FieldType} {hh : List (Nat × Nat × Nat × Nat)} {Ts ws ws' : List Cond} {rm : Room} (n : Nat) (ht : ∀ w ∈ Ts, w.before args s = true) (hT : GoodIn Ts (va_wsS own index y ws)) (hw : ws = Cond.codeWith y bytes maxL ret hh :: ws') (hrc : rm.cells = mc) (hrs : rm.slots = ms)
    (hd : y.cls ≠ "java/lang/invoke/MethodHandle" ∧ y.cls ≠ "java/lang/invoke/VarHandle" ∧ (parseMethodDescriptor y.desc).map (fun d => d.parameters.length) = some n) (hR : rm.frames + 1 ≤ R.frames ∧ 8 + (maxL + 11) + rm.locals ≤ R.locals) :
    vx_CSW R s args own index y bytes maxL ret hh ws rm mc ms n := by
  have ok : ∀ w ∈ va_wsS own index y ws, w.before args s = true := fun w h => ht w (hT w h).1
  have hG : GoodIn Ts ws := fun w h => hT w (by unfold va_wsS; exact List.mem_append_right _ h)
  have hc : Cond.codeWith y bytes maxL ret hh ∈ ws := by rw [hw]; exact List.mem_cons_self
  refine ⟨⟨hrc, hrs, hR.1, hR.2, pay_in ht hG, hc⟩, ht _ (hG _ hc).1, ok _ (by simp [va_wsS]), ⟨hd.1, hd.2.1⟩, fun sig h => ?_, ok _ (by simp [va_wsS]), ok _ (by simp [va_wsS])⟩
  have h2 := hd.2.2
  rw [h] at h2
  exact (Option.some.inj h2).symm
theorem vx_callSW (X : Stand p l e R s m args below meth c T locs cells slots) (hexec : p.tables.exec = Jvm.exec) {own : String} {index : Nat} {y : MethodName} {bytes : ByteArray} {maxL : Nat} {ret : Option FieldType} {hh : List (Nat × Nat × Nat × Nat)}
    (hown : s.vm.findClass own = some m.cls) (hlink : (Cond.methodLink own index y).before args s = true) (hstat : (Cond.static y).before args s = true) (hinit : (Cond.initialized y.cls).before args s = true)
    (hcode : (Cond.codeWith y bytes maxL ret hh).before args s = true) (hy : y.cls ≠ "java/lang/invoke/MethodHandle" ∧ y.cls ≠ "java/lang/invoke/VarHandle")
    {W9 : Nat} {Pre : Pt → Array Value → Prop} {Post : Pt → Array Value → Option Value → Pt → Prop} (hK : Back l R p e below s args y 3 W9 Pre Post)
    {g : JFrame} (hg : g.method = m) (hsize : g.locals.size = c.maxLocals) {argsL rest : List Value} (hlen : ∀ sig, parseMethodDescriptor y.desc = some sig → argsL.length = sig.parameters.length)
    (hstack : g.stack = argsL.reverse ++ rest) (hW : 2 * g.monitorRoom + (rest.map fun v => v.category).sum ≤ W9) (hdg : decode c.code g.pc = .ok (.invokestatic index, 3))
    (hpre : ∀ vm₁, s.WarmedH vm₁ → Pre ⟨T.setVm vm₁, locs, cells, slots⟩ argsL.toArray) :
    ∃ (v : Option Value) (vm₁ : Vm) (B : Pt), s.WarmedH vm₁ ∧ Stand p l e R s m args below meth c B.U B.locs B.cells B.slots ∧ Post ⟨T.setVm vm₁, locs, cells, slots⟩ argsL.toArray v B ∧
      ∀ target, Steps p.tables e below (B.U.setTop { g with pc := g.pc + 3, stack := v.toList ++ rest }) target → Steps p.tables e below (T.setTop g) target := by
  obtain ⟨mk, methM, cM, hnamed, hmethM, -, -, -, -, -, -, hsigM⟩ := Cond.codeWith_spec hcode
  have hstatic : methM.isStatic = true := Cond.static_spec hnamed hmethM hstat
  obtain ⟨kP, hkP, -⟩ := className_of_methodNamed hnamed
  have hinitP : kP.init = .initialized := Cond.initialized_spec (findClass_of_methodNamed hnamed) hkP hinit
  obtain ⟨vm₁, X₁, hstep₁⟩ := X.invokestatic hexec hown hlink hnamed hmethM hstatic hkP hinitP hy (g := g) hg (argsL := argsL) (rest := rest) (hlen _ hsigM) hstack hdg
  obtain ⟨v, B, X', hpost, hsteps⟩ := hK m meth c ⟨T.setVm vm₁, locs, cells, slots⟩ { g with stack := rest } (.invokestatic index) mk argsL.toArray X₁ hg hsize hdg hW (X₁.named hnamed) (hpre vm₁ X₁.warmed)
  exact ⟨v, vm₁, B, X₁.warmed, X', hpost, fun target h => hstep₁ _ fun acts => by rw [doInvoke_state]; exact hsteps.trans h⟩
theorem vx_runSW {y : MethodName} {bytes cc : ByteArray} {maxL nL mc ms n index : Nat} {ret : Option FieldType} {hh : List (Nat × Nat × Nat × Nat)} {ws : List Cond} {rm : Room} {Pc : Array Value → State → Prop} {Qc : Array Value → State → Outcome → State → Prop} {free : Addr → Prop} {Ts : List Cond} {own : String} {As rest : List Value} {g : JFrame}
    (S : CallFix p m c cc nL s args Ts own) (hM : Met l y ws rm Pc Qc mc ms free) (cw : vx_CSW R s args own index y bytes maxL ret hh ws rm mc ms n) (hp : PreS s H Pc As)
    (hg : g.method = m) (hn : As.length = n) (hsize : g.locals.size = nL) (hstack : g.stack = As.reverse ++ rest) (hW : 2 * g.monitorRoom + (rest.map fun v => v.category).sum ≤ 8) (hdg : decode cc g.pc = .ok (.invokestatic index, 3)) (hf : cells + mc ≤ R.cells ∧ slots + ms ≤ R.slots) :
    va_Run p l e R s m args below meth c H locs cells slots mc ms g rest (Qc As.toArray) (free) := by
  obtain ⟨⟨hrc, hrs, hfr, hlo, hws, hcw⟩, hcode, hini, hy, hlen, hl, hstt⟩ := cw
  have hK : Back l R p e below s args y 3 8 (PreOf R mc ms Pc) (PostOf Qc mc ms free) := va_backW (hh := hh) (bytes := bytes) (maxL := maxL) (ret := ret) hM hp.1 hrc hrs hfr hlo hws hcw (fun a' U hW => word_at hW (Or.inl (by first | rfl | simp [Cond.onTables, Cond.keeps, Cond.steady])) hini)
  obtain ⟨hx, hb, hml, ho, -⟩ := S
  intro T hT X
  obtain ⟨v, vm₁, ⟨U', l2, c2, s2⟩, hW₁, X', ⟨g', mk, t, L, e1, e2, hq, h1, hL, h2, h3⟩, st⟩ := vx_callSW X hx (hh := hh) (bytes := bytes) (maxL := maxL) (ret := ret) ho hl hstt hini hcode hy hK hg (hsize.trans hml.symm) (argsL := As) (rest := rest) (fun sig h => hn.trans (hlen sig h)) hstack hW (by rw [hb]; exact hdg)
    (fun vm₁ hW₁ => ⟨hf.1, hf.2, hp.2 (T.setVm vm₁) hT hW₁⟩)
  dsimp only [Pt.U, Pt.locs, Pt.cells, Pt.slots] at X' e1 e2 h1 h2 h3 st
  subst h1; subst h2; subst h3
  exact ⟨v, (T.setVm vm₁).calling g' mk As.toArray, t, U', L, hT, X', hL, e1, e2, hq, st⟩
/-- not caught here, past rows that name other classes: it goes on to the caller -/
theorem vx_outP {p : Program} {l : Launch} {e : Env} {R : Room} {s : State} {m : MethodId} {args : Array Value} {below : List Frame} {meth : Method} {c : Code} {H : Heap} {locs : List Loc} {cells slots : Nat} {free : Addr → Prop} {ls : Array Slot} {rest : List Value} {Qc : Array Value → State → Outcome → State → Prop} {XC : String → State → State → Prop}
    {pc : Nat} {own E : String} {ce : Cell} {q : Addr} {mc ms : Nat} (hown : s.vm.findClass own = some m.cls) (hlocks : meth.locks = false)
    (hpass : ∀ z ∈ c.exceptionTable.toList, covers z pc = false ∨ (z.catchType ≠ 0 ∧ ∃ nm : String, (Cond.classLink own z.catchType nm).before args s = true ∧ va_Nc E nm s)) (hcell : H[q]? = some ce) (hv : ce.vm = .none) (hcl : s.vm.findClass E = some ce.cls)
    (hx : ∀ t : State, t.heap = H → s.vm.Alike t.vm → XC E s t) (hf : ∀ z ∈ locs, free z.base) (hc : cells ≤ mc) (hs : slots ≤ ms) :
    vx_W p l e R s m args below meth c H locs cells slots (vx_MQ below Qc XC args s mc ms free) (F0 m pc ls rest) q := by
  intro T hT X
  have hpl : e.platform.magicAccessors = ({} : Platform).magicAccessors := by rw [X.admits.platform]
  obtain ⟨vm', hW', X', st⟩ := X.outThrough hlocks q (g := F0 m pc ls rest) rfl rfl rfl (cell := ce) (by rw [hT]; exact hcell) (by rw [hv]; rfl)
    (by obtain ⟨k9, h9, -⟩ := Vm.findClass_spec hcl; exact ⟨k9, h9⟩) (fun z hz => by
      rcases hpass z hz with h | ⟨hz0, nm, hl1, hn1⟩
      · exact Or.inl h
      · obtain ⟨c6, hc6, hcl6⟩ := Cond.classLink_spec hown hl1 e.platform hpl
        obtain ⟨a8, b8, h1, h2, h3⟩ := hn1
        cases Option.some.inj (h1.symm.trans hcl)
        cases Option.some.inj (h2.symm.trans hc6)
        exact Or.inr ⟨hz0, _, hcl6, h3⟩)
  obtain ⟨g₀, hfr⟩ := X'.frames_eq
  have hcell9 : ((T.setVm vm').setFrames (.throwing q :: below)).heap[q]? = some ce := by
    show T.heap[q]? = some ce
    rw [hT]; exact hcell
  have hend : Ended ((T.setVm vm').setFrames (.throwing q :: below)) below (.threw q) := State.frames_setFrames _ (State.cur_lt_of_frames hfr)
  refine ⟨(T.setVm vm').setFrames (.throwing q :: below), ?_, .threw q, X'.here.running, hend, Or.inr ⟨q, rfl, E, ce, locs, hx _ hT (X'.ends _).1.alike, hcell9, hv, hcl, (X'.ends _).1, (X'.ends _).2.mono hc hs, hf⟩⟩
  rw [X.pushThrowing_eq]
  exact st
/-- a thing of a world lies in the heap -/
theorem vx_lt {D : va_G} {cl : List vw_C} {ws : va_W} {H1 : Heap} (h : va_P D cl ws H1) {k : Nat} {q : Nat × va_E} (hk : ws[k]? = some q) : q.1 < H1.size := (h k q hk).lt
end VXS
/-! ===== END ===== -/
/-! ===== BEGIN methods with a table of their own: called by a name, returning or throwing ===== -/
section VXH
/-! vx_backW, vx_callVX, vx_callSX, vx_callVW, vx_runVW, vx_runVX, vx_runSX, vx_ofWH follow the same proofs as their sisters above (Free/Laws.lean, Shelf42/LK1.lean); vx_outP calls Shelf42/NT130.lean (outThrough). -/
section
variable {l : Launch} {R : Room} {p : Program} {e : Env} {below : List Frame} {s : State} {sargs : Array Value} {y : MethodName} {len W9 : Nat}
theorem vx_backW {ws : List Cond} {rm : Room} {Pc : Array Value → State → Prop} {Qc : Array Value → State → Outcome → State → Prop} {XC : String → State → State → Prop} {mc ms : Nat} {free : Addr → Prop} {bytes : ByteArray} {maxL : Nat} {ret : Option FieldType} {hh : List (Nat × Nat × Nat × Nat)}
    (hM : vx_Met l y ws rm Pc Qc XC mc ms free) (hblind : FrameBlind Pc) (hrc : rm.cells = mc) (hrs : rm.slots = ms)
    (hframes : rm.frames + 1 ≤ R.frames) (hlocals : W9 + (maxL + 11) + rm.locals ≤ R.locals)
    (hws : ∀ w ∈ ws, ∀ a' U, s.WarmedH U.vm → w.before a' U = true) (hcode : Cond.codeWith y bytes maxL ret hh ∈ ws) (hinit : ∀ a' U, s.WarmedH U.vm → (Cond.initialized y.cls).before a' U = true) :
    vx_Back l R p e below s sargs y len W9 (PreOf R mc ms Pc) (PostOf Qc mc ms free) (vx_Post XC mc ms free) := by
  intro m meth c A g ig mk a X hg hsize hdg hW hn hp
  have h1 : (headSpec ws rm).pre.before a A.U = true := atoms_intro fun w hw => hws w hw _ _ X.warmed
  have h2 : (Cond.codeWith y bytes maxL ret hh).before a A.U = true := hws _ hcode _ _ X.warmed
  have h3 : (Cond.initialized y.cls).before a A.U = true := hinit _ _ X.warmed
  have h4 : A.cells + (headSpec ws rm).room.cells ≤ R.cells := by rw [show (headSpec ws rm).room.cells = mc from hrc]; exact hp.1
  have h5 : A.slots + (headSpec ws rm).room.slots ≤ R.slots := by rw [show (headSpec ws rm).room.slots = ms from hrs]; exact hp.2.1
  have hPc : Pc a (A.U.calling g mk a) := hblind _ _ _ _ hp.2.2
  obtain ⟨U, Ls, c0, s0⟩ := A
  dsimp only [Pt.U, Pt.locs, Pt.cells, Pt.slots] at h1 h2 h3 h4 h5 X hn hPc ⊢
  obtain ⟨m9, methY, cY, hn9, hmY, hcY, -, hlY, -⟩ := Cond.codeWith_spec h2
  cases Option.some.inj (hn9.symm.trans hn)
  obtain ⟨kY, hkY, -⟩ := className_of_methodNamed hn
  have hinitY : kY.init = .initialized := Cond.initialized_spec (findClass_of_methodNamed hn) hkY h3
  have h : At U g.method c below := by rw [hg]; exact X.here
  have hlocals9 : W9 + (maxL + 11) + (headSpec ws rm).room.locals ≤ R.locals := hlocals
  have happ : (headSpec ws rm).appliesLoose y e.platform (U.calling g mk a) = true :=
    Spec.appliesLoose_calling (g := g) h hdg hn hkY hinitY
      (X.room_calling (g := g) (R' := (headSpec ws rm).room) hsize hmY hcY hframes (by rw [hlY]; omega) h4 h5) h1
  obtain ⟨mid, hmid⟩ := h.above
  have hfr : (U.setTop g).frames = (.java g :: mid) ++ below := by rw [State.frames_setTop' g h.top, hmid]; rfl
  obtain ⟨o, s₂, hsteps, -, hend, hq⟩ := Steps.callFree hM p X.admits X.cas X.clock (acts := []) hfr happ hPc trivial
  have hq' : vx_Q Qc XC mc ms free a (U.calling g mk a) o s₂ := hq
  rw [State.frames_setTop' g h.top] at hend
  obtain ⟨g₀, hg0⟩ := Option.isSome_iff_exists.mp h.top
  obtain ⟨r, hr⟩ := State.topJava?_eq_some.mp hg0
  have hr' : (({ U with heap := s₂.heap, slotsUsed := s₂.slotsUsed } : State).setVm s₂.vm).frames = .java g₀ :: r := hr
  rcases hq' with ⟨hqc, L, hfe, hL⟩ | ⟨q, rfl, E, ce, L, hx, hce, hcv, hcl, hW₂, hsm, hL⟩
  · obtain ⟨⟨v, rfl⟩, hW₂, e2, q2, q3, q4, q5, q6⟩ := id hfe
    have e3 : s₂ = ({ (U.calling g mk a).setFrames s₂.frames with heap := s₂.heap, slotsUsed := s₂.slotsUsed } : State).setVm s₂.vm := by
      have : s₂ = ({ s₂ with vm := (U.calling g mk a).vm } : State).setVm s₂.vm := rfl
      rw [e2] at this
      exact this
    obtain ⟨c₂, i₂, len₂, hc₂, hd₂, hf₂⟩ := hend
    have hW' : U.WarmedH s₂.vm := hW₂
    have hcc : c₂ = c := by
      have h1 : s₂.code? g.method = U.code? g.method := by
        rw [State.code?_eq, State.code?_eq, hW'.alike.method?]
      exact Option.some.inj (hc₂.symm.trans (h1.trans h.code))
    subst hcc
    have hlen : len₂ = len := by rw [hdg] at hd₂; cases hd₂; rfl
    subst hlen
    have hs₂ : s₂ = (({ U with heap := s₂.heap, slotsUsed := s₂.slotsUsed } : State).setVm s₂.vm).setTop { g with pc := g.pc + len₂, stack := v.toList ++ g.stack } := by
      refine e3.trans ?_
      rw [hf₂, State.calling_eq h.top, State.setFrames_setFrames, State.setTop_of_frames _ hr', hr]
      rfl
    have hsame : U.sameButNew ({ U with heap := s₂.heap, slotsUsed := s₂.slotsUsed } : State) L mc ms := by
      refine ⟨?_, q2, q3, q4, q5, q6⟩
      obtain ⟨t, ht, -⟩ := State.frames_cons hr
      show ({ U with heap := s₂.heap, slotsUsed := s₂.slotsUsed } : State) = { U.setFrames U.frames with heap := s₂.heap, slotsUsed := s₂.slotsUsed }
      rw [State.setFrames_self ht]
    subst hg
    refine Or.inl ⟨v, ⟨(({ U with heap := s₂.heap, slotsUsed := s₂.slotsUsed } : State).setVm s₂.vm), Ls ++ L, c0 + mc, s0 + ms⟩,
      ⟨X.admits, X.cas, X.clock, X.frames, X.room, X.hears, X.method, X.code, (X.here.setHeapUsed s₂.heap s₂.slotsUsed).setVm hW'.alike, X.tail, State.WarmedH.trans X.warmed hW', X.limits, X.bytes, X.same.trans (hsame.setVm s.vm)⟩,
      ⟨g, mk, s₂, L, rfl, rfl, hqc, rfl, hL, rfl, rfl⟩, ?_⟩
    show Steps p.tables e below _ ((({ U with heap := s₂.heap, slotsUsed := s₂.slotsUsed } : State).setVm s₂.vm).setTop { g with pc := g.pc + len₂, stack := v.toList ++ g.stack })
    rw [← hs₂]
    exact hsteps
  · obtain ⟨e2, q2, q3, q4, q5, q6⟩ := id hsm
    have e3 : s₂ = ({ (U.calling g mk a).setFrames s₂.frames with heap := s₂.heap, slotsUsed := s₂.slotsUsed } : State).setVm s₂.vm := by
      have : s₂ = ({ s₂ with vm := (U.calling g mk a).vm } : State).setVm s₂.vm := rfl
      rw [e2] at this
      exact this
    have hf₂ : s₂.frames = .throwing q :: .java g :: U.frames.tail := hend
    have hW' : U.WarmedH s₂.vm := hW₂
    have hs₂ : s₂ = ((({ U with heap := s₂.heap, slotsUsed := s₂.slotsUsed } : State).setVm s₂.vm).setTop g).pushFrame (.throwing q) := by
      refine e3.trans ?_
      rw [hf₂, State.calling_eq h.top, State.setFrames_setFrames, State.pushFrame, State.frames_setTop _ hr', State.setTop_of_frames _ hr', State.setFrames_setFrames, hr]
      rfl
    have hsame : U.sameButNew ({ U with heap := s₂.heap, slotsUsed := s₂.slotsUsed } : State) L mc ms := by
      refine ⟨?_, q2, q3, q4, q5, q6⟩
      obtain ⟨t, ht, -⟩ := State.frames_cons hr
      show ({ U with heap := s₂.heap, slotsUsed := s₂.slotsUsed } : State) = { U.setFrames U.frames with heap := s₂.heap, slotsUsed := s₂.slotsUsed }
      rw [State.setFrames_self ht]
    subst hg
    refine Or.inr ⟨q, ⟨(({ U with heap := s₂.heap, slotsUsed := s₂.slotsUsed } : State).setVm s₂.vm), Ls ++ L, c0 + mc, s0 + ms⟩,
      ⟨X.admits, X.cas, X.clock, X.frames, X.room, X.hears, X.method, X.code, (X.here.setHeapUsed s₂.heap s₂.slotsUsed).setVm hW'.alike, X.tail, State.WarmedH.trans X.warmed hW', X.limits, X.bytes, X.same.trans (hsame.setVm s.vm)⟩,
      ⟨g, mk, s₂, L, E, ce, rfl, rfl, hx, hce, hcv, hcl, rfl, hL, rfl, rfl⟩, ?_⟩
    show Steps p.tables e below _ (((({ U with heap := s₂.heap, slotsUsed := s₂.slotsUsed } : State).setVm s₂.vm).setTop g).pushFrame (.throwing q))
    rw [← hs₂]
    exact hsteps
end
variable {p : Program} {l : Launch} {e : Env} {R : Room} {s : State} {m : MethodId} {args : Array Value} {below : List Frame} {meth : Method} {c : Code} {T : State} {H : Heap} {locs : List Loc} {cells slots : Nat}
theorem vx_callVX (X : Stand p l e R s m args below meth c T locs cells slots) (hexec : p.tables.exec = Jvm.exec) {own C : String} {index : Nat} {y : MethodName} {bytes : ByteArray} {maxL : Nat} {ret : Option FieldType} {hh : List (Nat × Nat × Nat × Nat)}
    (hown : s.vm.findClass own = some m.cls) (hlink : (Cond.methodLink own index y).before args s = true) (hinst : (Cond.instanceMethod y).before args s = true) (hsel : (Cond.selects C y y).before args s = true)
    (hcode : (Cond.codeWith y bytes maxL ret hh).before args s = true) (hy : y.cls ≠ "java/lang/invoke/MethodHandle" ∧ y.cls ≠ "java/lang/invoke/VarHandle")
    {W9 : Nat} {Pre : Pt → Array Value → Prop} {Post : Pt → Array Value → Option Value → Pt → Prop} {PostX : Pt → Array Value → Addr → Pt → Prop} (hK : vx_Back l R p e below s args y 3 W9 Pre Post PostX)
    {b : Addr} {cellB : Cell} (hcell : T.heap[b]? = some cellB) (hobj : cellB.vm.isStatics = false) (hcls : s.vm.findClass C = some cellB.cls)
    {g : JFrame} (hg : g.method = m) (hsize : g.locals.size = c.maxLocals) {argsL rest : List Value} (hlen : ∀ sig, parseMethodDescriptor y.desc = some sig → argsL.length = sig.parameters.length)
    (hstack : g.stack = argsL.reverse ++ .ref b :: rest) (hW : 2 * g.monitorRoom + (rest.map fun v => v.category).sum ≤ W9) (hdg : decode c.code g.pc = .ok (.invokevirtual index, 3))
    (hpre : ∀ vm₁, s.WarmedH vm₁ → Pre ⟨T.setVm vm₁, locs, cells, slots⟩ (Value.ref b :: argsL).toArray) :
    (∃ (v : Option Value) (vm₁ : Vm) (B : Pt), s.WarmedH vm₁ ∧ Stand p l e R s m args below meth c B.U B.locs B.cells B.slots ∧ Post ⟨T.setVm vm₁, locs, cells, slots⟩ (Value.ref b :: argsL).toArray v B ∧
      ∀ target, Steps p.tables e below (B.U.setTop { g with pc := g.pc + 3, stack := v.toList ++ rest }) target → Steps p.tables e below (T.setTop g) target) ∨
    (∃ (q : Addr) (vm₁ : Vm) (B : Pt), s.WarmedH vm₁ ∧ Stand p l e R s m args below meth c B.U B.locs B.cells B.slots ∧ PostX ⟨T.setVm vm₁, locs, cells, slots⟩ (Value.ref b :: argsL).toArray q B ∧
      Steps p.tables e below (T.setTop g) ((B.U.setTop { g with stack := rest }).pushFrame (.throwing q))) := by
  obtain ⟨mk, methM, hnamed, hmethM, hstM, habM⟩ := Cond.instanceMethod_spec hinst
  obtain ⟨m8, methM', cM, hn8, hmethM', -, -, -, -, -, -, hsigM⟩ := Cond.codeWith_spec hcode
  cases Option.some.inj (hn8.symm.trans hnamed)
  cases hmethM.symm.trans hmethM'
  obtain ⟨c2, r2, m2, q1, q2, q3, q4, kP, hkP, hkPi⟩ := Cond.selects_spec hsel
  cases hcls.symm.trans q1
  cases (State.methodFound?_of_named hnamed hy).symm.trans q2
  cases hnamed.symm.trans q3
  have hselP : selectMethod e.platform s.vm cellB.cls mk = .method mk := by rw [Launch.admits_selectMethod X.admits]; exact q4
  obtain ⟨vm₁, X₁, hstep₁⟩ := X.invokevirtual hexec hown hlink hnamed hmethM hstM hkP hkPi hy (a := b) (cell := cellB) hcell
    (fun z h => by rw [h] at hobj; cases hobj) hselP hmethM habM hkP hkPi (g := g) hg (argsL := argsL) (rest := rest) (hlen _ hsigM) hstack hdg
  rcases hK m meth c ⟨T.setVm vm₁, locs, cells, slots⟩ { g with stack := rest } (.invokevirtual index) mk (Value.ref b :: argsL).toArray X₁ hg hsize hdg hW (X₁.named hnamed) (hpre vm₁ X₁.warmed) with ⟨v, B, X', hpost, hsteps⟩ | ⟨q, B, X', hpost, hsteps⟩
  · exact Or.inl ⟨v, vm₁, B, X₁.warmed, X', hpost, fun target h => hstep₁ _ fun acts => by rw [doInvoke_state]; exact hsteps.trans h⟩
  · exact Or.inr ⟨q, vm₁, B, X₁.warmed, X', hpost, hstep₁ _ fun acts => by rw [doInvoke_state]; exact hsteps⟩
theorem vx_callSX (X : Stand p l e R s m args below meth c T locs cells slots) (hexec : p.tables.exec = Jvm.exec) {own : String} {index : Nat} {y : MethodName} {bytes : ByteArray} {maxL : Nat} {ret : Option FieldType} {hh : List (Nat × Nat × Nat × Nat)}
    (hown : s.vm.findClass own = some m.cls) (hlink : (Cond.methodLink own index y).before args s = true) (hstat : (Cond.static y).before args s = true) (hinit : (Cond.initialized y.cls).before args s = true)
    (hcode : (Cond.codeWith y bytes maxL ret hh).before args s = true) (hy : y.cls ≠ "java/lang/invoke/MethodHandle" ∧ y.cls ≠ "java/lang/invoke/VarHandle")
    {W9 : Nat} {Pre : Pt → Array Value → Prop} {Post : Pt → Array Value → Option Value → Pt → Prop} {PostX : Pt → Array Value → Addr → Pt → Prop} (hK : vx_Back l R p e below s args y 3 W9 Pre Post PostX)
    {g : JFrame} (hg : g.method = m) (hsize : g.locals.size = c.maxLocals) {argsL rest : List Value} (hlen : ∀ sig, parseMethodDescriptor y.desc = some sig → argsL.length = sig.parameters.length)
    (hstack : g.stack = argsL.reverse ++ rest) (hW : 2 * g.monitorRoom + (rest.map fun v => v.category).sum ≤ W9) (hdg : decode c.code g.pc = .ok (.invokestatic index, 3))
    (hpre : ∀ vm₁, s.WarmedH vm₁ → Pre ⟨T.setVm vm₁, locs, cells, slots⟩ argsL.toArray) :
    (∃ (v : Option Value) (vm₁ : Vm) (B : Pt), s.WarmedH vm₁ ∧ Stand p l e R s m args below meth c B.U B.locs B.cells B.slots ∧ Post ⟨T.setVm vm₁, locs, cells, slots⟩ argsL.toArray v B ∧
      ∀ target, Steps p.tables e below (B.U.setTop { g with pc := g.pc + 3, stack := v.toList ++ rest }) target → Steps p.tables e below (T.setTop g) target) ∨
    (∃ (q : Addr) (vm₁ : Vm) (B : Pt), s.WarmedH vm₁ ∧ Stand p l e R s m args below meth c B.U B.locs B.cells B.slots ∧ PostX ⟨T.setVm vm₁, locs, cells, slots⟩ argsL.toArray q B ∧
      Steps p.tables e below (T.setTop g) ((B.U.setTop { g with stack := rest }).pushFrame (.throwing q))) := by
  obtain ⟨mk, methM, cM, hnamed, hmethM, -, -, -, -, -, -, hsigM⟩ := Cond.codeWith_spec hcode
  have hstatic : methM.isStatic = true := Cond.static_spec hnamed hmethM hstat
  obtain ⟨kP, hkP, -⟩ := className_of_methodNamed hnamed
  have hinitP : kP.init = .initialized := Cond.initialized_spec (findClass_of_methodNamed hnamed) hkP hinit
  obtain ⟨vm₁, X₁, hstep₁⟩ := X.invokestatic hexec hown hlink hnamed hmethM hstatic hkP hinitP hy (g := g) hg (argsL := argsL) (rest := rest) (hlen _ hsigM) hstack hdg
  rcases hK m meth c ⟨T.setVm vm₁, locs, cells, slots⟩ { g with stack := rest } (.invokestatic index) mk argsL.toArray X₁ hg hsize hdg hW (X₁.named hnamed) (hpre vm₁ X₁.warmed) with ⟨v, B, X', hpost, hsteps⟩ | ⟨q, B, X', hpost, hsteps⟩
  · exact Or.inl ⟨v, vm₁, B, X₁.warmed, X', hpost, fun target h => hstep₁ _ fun acts => by rw [doInvoke_state]; exact hsteps.trans h⟩
  · exact Or.inr ⟨q, vm₁, B, X₁.warmed, X', hpost, hstep₁ _ fun acts => by rw [doInvoke_state]; exact hsteps⟩
theorem vx_callVW (X : Stand p l e R s m args below meth c T locs cells slots) (hexec : p.tables.exec = Jvm.exec) {own C : String} {index : Nat} {y : MethodName} {bytes : ByteArray} {maxL : Nat} {ret : Option FieldType} {hh : List (Nat × Nat × Nat × Nat)}
    (hown : s.vm.findClass own = some m.cls) (hlink : (Cond.methodLink own index y).before args s = true) (hinst : (Cond.instanceMethod y).before args s = true) (hsel : (Cond.selects C y y).before args s = true)
    (hcode : (Cond.codeWith y bytes maxL ret hh).before args s = true) (hy : y.cls ≠ "java/lang/invoke/MethodHandle" ∧ y.cls ≠ "java/lang/invoke/VarHandle")
    {W9 : Nat} {Pre : Pt → Array Value → Prop} {Post : Pt → Array Value → Option Value → Pt → Prop} (hK : Back l R p e below s args y 3 W9 Pre Post)
    {b : Addr} {cellB : Cell} (hcell : T.heap[b]? = some cellB) (hobj : cellB.vm.isStatics = false) (hcls : s.vm.findClass C = some cellB.cls)
    {g : JFrame} (hg : g.method = m) (hsize : g.locals.size = c.maxLocals) {argsL rest : List Value} (hlen : ∀ sig, parseMethodDescriptor y.desc = some sig → argsL.length = sig.parameters.length)
    (hstack : g.stack = argsL.reverse ++ .ref b :: rest) (hW : 2 * g.monitorRoom + (rest.map fun v => v.category).sum ≤ W9) (hdg : decode c.code g.pc = .ok (.invokevirtual index, 3))
    (hpre : ∀ vm₁, s.WarmedH vm₁ → Pre ⟨T.setVm vm₁, locs, cells, slots⟩ (Value.ref b :: argsL).toArray) :
    ∃ (v : Option Value) (vm₁ : Vm) (B : Pt), s.WarmedH vm₁ ∧ Stand p l e R s m args below meth c B.U B.locs B.cells B.slots ∧ Post ⟨T.setVm vm₁, locs, cells, slots⟩ (Value.ref b :: argsL).toArray v B ∧
      ∀ target, Steps p.tables e below (B.U.setTop { g with pc := g.pc + 3, stack := v.toList ++ rest }) target → Steps p.tables e below (T.setTop g) target := by
  obtain ⟨mk, methM, hnamed, hmethM, hstM, habM⟩ := Cond.instanceMethod_spec hinst
  obtain ⟨m8, methM', cM, hn8, hmethM', -, -, -, -, -, -, hsigM⟩ := Cond.codeWith_spec hcode
  cases Option.some.inj (hn8.symm.trans hnamed)
  cases hmethM.symm.trans hmethM'
  obtain ⟨c2, r2, m2, q1, q2, q3, q4, kP, hkP, hkPi⟩ := Cond.selects_spec hsel
  cases hcls.symm.trans q1
  cases (State.methodFound?_of_named hnamed hy).symm.trans q2
  cases hnamed.symm.trans q3
  have hselP : selectMethod e.platform s.vm cellB.cls mk = .method mk := by rw [Launch.admits_selectMethod X.admits]; exact q4
  obtain ⟨vm₁, X₁, hstep₁⟩ := X.invokevirtual hexec hown hlink hnamed hmethM hstM hkP hkPi hy (a := b) (cell := cellB) hcell
    (fun z h => by rw [h] at hobj; cases hobj) hselP hmethM habM hkP hkPi (g := g) hg (argsL := argsL) (rest := rest) (hlen _ hsigM) hstack hdg
  obtain ⟨v, B, X', hpost, hsteps⟩ := hK m meth c ⟨T.setVm vm₁, locs, cells, slots⟩ { g with stack := rest } (.invokevirtual index) mk (Value.ref b :: argsL).toArray X₁ hg hsize hdg hW (X₁.named hnamed) (hpre vm₁ X₁.warmed)
  exact ⟨v, vm₁, B, X₁.warmed, X', hpost, fun target h => hstep₁ _ fun acts => by rw [doInvoke_state]; exact hsteps.trans h⟩
abbrev vx_CVW (R : Room) (s : State) (args : Array Value) (own C : String) (index : Nat) (y : MethodName) (bytes : ByteArray) (maxL : Nat) (ret : Option FieldType) (hh : List (Nat × Nat × Nat × Nat)) (ws : List Cond) (rm : Room) (mc ms n : Nat) : Prop :=
  (rm.cells = mc ∧ rm.slots = ms ∧ rm.frames + 1 ≤ R.frames ∧ 8 + (maxL + 11) + rm.locals ≤ R.locals ∧ (∀ w ∈ ws, ∀ (a' : Array Value) (U : State), s.WarmedH U.vm → w.before a' U = true) ∧ Cond.codeWith y bytes maxL ret hh ∈ ws) ∧
  (Cond.codeWith y bytes maxL ret hh).before args s = true ∧ (Cond.initialized y.cls).before args s = true ∧ (y.cls ≠ "java/lang/invoke/MethodHandle" ∧ y.cls ≠ "java/lang/invoke/VarHandle") ∧
  (∀ sig, parseMethodDescriptor y.desc = some sig → n = sig.parameters.length) ∧ (Cond.methodLink own index y).before args s = true ∧ (Cond.instanceMethod y).before args s = true ∧ (Cond.selects C y y).before args s = true
theorem vx_cwVW {own C : String} {index maxL mc ms : Nat} {y : MethodName} {bytes : ByteArray} {ret : Option FieldType} {hh : List (Nat × Nat × Nat × Nat)} {Ts ws ws' : List Cond} {rm : Room} (n : Nat) (ht : ∀ w ∈ Ts, w.before args s = true) (hT : GoodIn Ts (wsV own index C y ws)) (hw : ws = Cond.codeWith y bytes maxL ret hh :: ws') (hrc : rm.cells = mc) (hrs : rm.slots = ms)
    (hd : y.cls = C ∧ y.cls ≠ "java/lang/invoke/MethodHandle" ∧ y.cls ≠ "java/lang/invoke/VarHandle" ∧ (parseMethodDescriptor y.desc).map (fun d => d.parameters.length) = some n) (hR : rm.frames + 1 ≤ R.frames ∧ 8 + (maxL + 11) + rm.locals ≤ R.locals) :
    vx_CVW R s args own C index y bytes maxL ret hh ws rm mc ms n := by
  obtain ⟨hC, hd⟩ := hd
  subst hC
  have ok : ∀ w ∈ wsV own index y.cls y ws, w.before args s = true := fun w h => ht w (hT w h).1
  have hG : GoodIn Ts ws := fun w h => hT w (by unfold wsV; exact List.mem_append_right _ h)
  have hc : Cond.codeWith y bytes maxL ret hh ∈ ws := by rw [hw]; exact List.mem_cons_self
  refine ⟨⟨hrc, hrs, hR.1, hR.2, pay_in ht hG, hc⟩, ht _ (hG _ hc).1, ok _ (by simp [wsV]), ⟨hd.1, hd.2.1⟩, fun sig h => ?_, ok _ (by simp [wsV]), ok _ (by simp [wsV]), ok _ (by simp [wsV])⟩
  have h2 := hd.2.2
  rw [h] at h2
  exact (Option.some.inj h2).symm
theorem vx_runVW {y : MethodName} {bytes cc : ByteArray} {maxL nL mc ms n index : Nat} {ret : Option FieldType} {hh : List (Nat × Nat × Nat × Nat)} {ws : List Cond} {rm : Room} {Pc : Array Value → State → Prop} {Qc : Array Value → State → Outcome → State → Prop} {free : Addr → Prop} {Ts : List Cond} {own C : String} {b : Addr} {As rest : List Value} {g : JFrame}
    (S : CallFix p m c cc nL s args Ts own) (hM : Met l y ws rm Pc Qc mc ms free) (cw : vx_CVW R s args own C index y bytes maxL ret hh ws rm mc ms n) (hp : PreV s H C b Pc As)
    (hg : g.method = m) (hn : As.length = n) (hsize : g.locals.size = nL) (hstack : g.stack = As.reverse ++ .ref b :: rest) (hW : 2 * g.monitorRoom + (rest.map fun v => v.category).sum ≤ 8) (hdg : decode cc g.pc = .ok (.invokevirtual index, 3)) (hf : cells + mc ≤ R.cells ∧ slots + ms ≤ R.slots) :
    va_Run p l e R s m args below meth c H locs cells slots mc ms g rest (Qc (Value.ref b :: As).toArray) free := by
  obtain ⟨⟨hrc, hrs, hfr, hlo, hws, hcw⟩, hcode, hini, hy, hlen, hl, hin, hse⟩ := cw
  have hK : Back l R p e below s args y 3 8 (PreOf R mc ms Pc) (PostOf Qc mc ms free) := va_backW (hh := hh) (bytes := bytes) (maxL := maxL) (ret := ret) hM hp.1 hrc hrs hfr hlo hws hcw (fun a' U hW => word_at hW (Or.inl (by first | rfl | simp [Cond.onTables, Cond.keeps, Cond.steady])) hini)
  obtain ⟨hx, hb, hml, ho, -⟩ := S
  obtain ⟨-, ⟨cellB, hcB, hoB, hclB⟩, hPc⟩ := hp
  intro T hT X
  obtain ⟨v, vm₁, ⟨U', l2, c2, s2⟩, hW₁, X', ⟨g', mk, t, L, e1, e2, hq, h1, hL, h2, h3⟩, st⟩ := vx_callVW X hx (C := C) (hh := hh) (bytes := bytes) (maxL := maxL) (ret := ret) ho hl hin hse hcode hy hK (by rw [hT]; exact hcB) hoB hclB hg (hsize.trans hml.symm) (argsL := As) (rest := rest) (fun sig h => hn.trans (hlen sig h)) hstack hW (by rw [hb]; exact hdg)
    (fun vm₁ hW₁ => ⟨hf.1, hf.2, hPc (T.setVm vm₁) hT hW₁⟩)
  dsimp only [Pt.U, Pt.locs, Pt.cells, Pt.slots] at X' e1 e2 h1 h2 h3 st
  subst h1; subst h2; subst h3
  exact ⟨v, (T.setVm vm₁).calling g' mk (Value.ref b :: As).toArray, t, U', L, hT, X', hL, e1, e2, hq, st⟩
section
variable {y : MethodName} {bytes cc : ByteArray} {maxL nL mc ms n index : Nat} {ret : Option FieldType} {ws : List Cond} {rm : Room} {Pc : Array Value → State → Prop} {Qc : Array Value → State → Outcome → State → Prop} {XC : String → State → State → Prop} {free : Addr → Prop} {Ts : List Cond} {own C : String} {b : Addr} {As rest : List Value} {g : JFrame}
theorem vx_runVX {hh : List (Nat × Nat × Nat × Nat)} (S : CallFix p m c cc nL s args Ts own) (hM : vx_Met l y ws rm Pc Qc XC mc ms free) (cw : vx_CVW R s args own C index y bytes maxL ret hh ws rm mc ms n) (hp : PreV s H C b Pc As)
    (hg : g.method = m) (hn : As.length = n) (hsize : g.locals.size = nL) (hstack : g.stack = As.reverse ++ .ref b :: rest) (hW : 2 * g.monitorRoom + (rest.map fun v => v.category).sum ≤ 8) (hdg : decode cc g.pc = .ok (.invokevirtual index, 3)) (hf : cells + mc ≤ R.cells ∧ slots + ms ≤ R.slots) :
    vx_Run p l e R s m args below meth c H locs cells slots mc ms g rest (Qc (Value.ref b :: As).toArray) XC free := by
  obtain ⟨⟨hrc, hrs, hfr, hlo, hws, hcw⟩, hcode, hini, hy, hlen, hl, hin, hse⟩ := cw
  have hK : vx_Back l R p e below s args y 3 8 (PreOf R mc ms Pc) (PostOf Qc mc ms free) (vx_Post XC mc ms free) := vx_backW (hh := hh) (bytes := bytes) (maxL := maxL) (ret := ret) hM hp.1 hrc hrs hfr hlo hws hcw (fun a' U hW => word_at hW (Or.inl (by first | rfl | simp [Cond.onTables, Cond.keeps, Cond.steady])) hini)
  obtain ⟨hx, hb, hml, ho, -⟩ := S
  obtain ⟨-, ⟨cellB, hcB, hoB, hclB⟩, hPc⟩ := hp
  intro T hT X
  rcases vx_callVX X hx (C := C) (hh := hh) (bytes := bytes) (maxL := maxL) (ret := ret) ho hl hin hse hcode hy hK (by rw [hT]; exact hcB) hoB hclB hg (hsize.trans hml.symm) (argsL := As) (rest := rest) (fun sig h => hn.trans (hlen sig h)) hstack hW (by rw [hb]; exact hdg)
    (fun vm₁ hW₁ => ⟨hf.1, hf.2, hPc (T.setVm vm₁) hT hW₁⟩) with ⟨v, vm₁, ⟨U', l2, c2, s2⟩, hW₁, X', ⟨g', mk, t, L, e1, e2, hq, h1, hL, h2, h3⟩, st⟩ | ⟨q, vm₁, ⟨U', l2, c2, s2⟩, hW₁, X', ⟨g', mk, t, L, E, ce, e1, e2, hq, hce, hcv, hcl, h1, hL, h2, h3⟩, st⟩
  · dsimp only [Pt.U, Pt.locs, Pt.cells, Pt.slots] at X' e1 e2 h1 h2 h3 st
    subst h1; subst h2; subst h3
    exact Or.inl ⟨v, (T.setVm vm₁).calling g' mk (Value.ref b :: As).toArray, t, U', L, hT, X', hL, e1, e2, hq, st⟩
  · dsimp only [Pt.U, Pt.locs, Pt.cells, Pt.slots] at X' e1 e2 h1 h2 h3 st hcl
    subst h1; subst h2; subst h3
    exact Or.inr ⟨q, (T.setVm vm₁).calling g' mk (Value.ref b :: As).toArray, t, U', L, E, ce, hT, X', hL, e1, e2, hq, hce, hcv, vx_cls hW₁ hcl, st⟩
theorem vx_runSX {hh : List (Nat × Nat × Nat × Nat)} (S : CallFix p m c cc nL s args Ts own) (hM : vx_Met l y ws rm Pc Qc XC mc ms free) (cw : vx_CSW R s args own index y bytes maxL ret hh ws rm mc ms n) (hp : PreS s H Pc As)
    (hg : g.method = m) (hn : As.length = n) (hsize : g.locals.size = nL) (hstack : g.stack = As.reverse ++ rest) (hW : 2 * g.monitorRoom + (rest.map fun v => v.category).sum ≤ 8) (hdg : decode cc g.pc = .ok (.invokestatic index, 3)) (hf : cells + mc ≤ R.cells ∧ slots + ms ≤ R.slots) :
    vx_Run p l e R s m args below meth c H locs cells slots mc ms g rest (Qc As.toArray) XC free := by
  obtain ⟨⟨hrc, hrs, hfr, hlo, hws, hcw⟩, hcode, hini, hy, hlen, hl, hstt⟩ := cw
  have hK : vx_Back l R p e below s args y 3 8 (PreOf R mc ms Pc) (PostOf Qc mc ms free) (vx_Post XC mc ms free) := vx_backW (hh := hh) (bytes := bytes) (maxL := maxL) (ret := ret) hM hp.1 hrc hrs hfr hlo hws hcw (fun a' U hW => word_at hW (Or.inl (by first | rfl | simp [Cond.onTables, Cond.keeps, Cond.steady])) hini)
  obtain ⟨hx, hb, hml, ho, -⟩ := S
  intro T hT X
  rcases vx_callSX X hx (hh := hh) (bytes := bytes) (maxL := maxL) (ret := ret) ho hl hstt hini hcode hy hK hg (hsize.trans hml.symm) (argsL := As) (rest := rest) (fun sig h => hn.trans (hlen sig h)) hstack hW (by rw [hb]; exact hdg)
    (fun vm₁ hW₁ => ⟨hf.1, hf.2, hp.2 (T.setVm vm₁) hT hW₁⟩) with ⟨v, vm₁, ⟨U', l2, c2, s2⟩, hW₁, X', ⟨g', mk, t, L, e1, e2, hq, h1, hL, h2, h3⟩, st⟩ | ⟨q, vm₁, ⟨U', l2, c2, s2⟩, hW₁, X', ⟨g', mk, t, L, E, ce, e1, e2, hq, hce, hcv, hcl, h1, hL, h2, h3⟩, st⟩
  · dsimp only [Pt.U, Pt.locs, Pt.cells, Pt.slots] at X' e1 e2 h1 h2 h3 st
    subst h1; subst h2; subst h3
    exact Or.inl ⟨v, (T.setVm vm₁).calling g' mk As.toArray, t, U', L, hT, X', hL, e1, e2, hq, st⟩
  · dsimp only [Pt.U, Pt.locs, Pt.cells, Pt.slots] at X' e1 e2 h1 h2 h3 st hcl
    subst h1; subst h2; subst h3
    exact Or.inr ⟨q, (T.setVm vm₁).calling g' mk As.toArray, t, U', L, E, ce, hT, X', hL, e1, e2, hq, hce, hcv, vx_cls hW₁ hcl, st⟩
end
end VXH
theorem vx_ofWH {l : Launch} {y : MethodName} {ws ws' : List Cond} {rm : Room} {Pc : Array Value → State → Prop} {Qc : Array Value → State → Outcome → State → Prop} {XC : String → State → State → Prop} {mc ms : Nat} {free : Addr → Prop} {cc : ByteArray} {maxL : Nat} {ret : Option FieldType} {hh : List (Nat × Nat × Nat × Nat)}
    (hy : plainName y.cls = true) (hw : ws = Cond.codeWith y cc maxL ret hh :: ws')
    (body : ∀ p e s m args below meth c s₁, BodyLoose p l y (headSpec ws rm) cc maxL ret e s m args below meth c s₁ → c.maxLocals = maxL → Pc args s →
      W p l e (headSpec ws rm).room s m args below meth c s.heap [] 0 0 (vx_MQ below Qc XC args s mc ms free) (entryFrame m args maxL)) : vx_Met l y ws rm Pc Qc XC mc ms free := by
  refine MetFree.of_bodyS (code := cc) (maxLocals := maxL) (ret := ret) hy ?_ ?_
  · intro args s m h hn
    obtain ⟨m9, meth, c, hn9, h1, h2, h3, h4, -, h5, h6, -⟩ := Cond.codeWith_spec (atoms_spec (ws := ws) h _ (by rw [hw]; exact List.mem_cons_self))
    cases hn.symm.trans hn9
    exact ⟨meth, c, h1, h2, h3, h4, h5, h6⟩
  · intro p e s m args below meth c s₁ B hml hP _
    have hh0 : s₁.heap = s.heap := by rw [B.state]; rfl
    obtain ⟨t, a1, o, b1, b2, b3⟩ := body p e s m args below meth c s₁ B hml hP s₁ hh0 (Stand.of_body B)
    exact ⟨t, o, a1, b1, b2, b3⟩
/-! ===== END ===== -/
end
section
def TX0 : u_T := fun k => match k with
  | 0 => ("TileBins", "wide", "I", false)
  | 1 => ("TileBins", "high", "I", false)
  | 2 => ("TileBins", "shift", "I", false)
  | 3 => ("TileBins", "columns", "I", false)
  | 4 => ("TileBins", "lines", "I", false)
  | 5 => ("TileBins", "cells", "I", false)
  | 6 => ("TileBins", "parts", "[I", false)
  | 7 => ("TileBins", "items", "I", false)
  | 8 => ("TileBins", "taken", "I", false)
  | 9 => ("TileBins", "opened", "I", false)
  | _ => ("TileBins", "ahead", "I", false)
def tyX0 : Nat → FieldType := fun k => match k with
  | 0 => .int
  | 1 => .int
  | 2 => .int
  | 3 => .int
  | 4 => .int
  | 5 => .int
  | 6 => .array .int
  | 7 => .int
  | 8 => .int
  | 9 => .int
  | _ => .int
theorem nmX0 : ∀ a, a < 11 → ∀ b, b < 11 → a ≠ b → (TX0 a).2.1 ≠ (TX0 b).2.1 := by decide +kernel
theorem tyX0_ok : ∀ k, k < 11 → parseFieldDescriptor (TX0 k).2.2.1 = some (tyX0 k) := by decide +kernel
def TX1 : u_T := fun k => match k with
  | 0 => ("TileBinsModel", "thrown", "I", false)
  | 1 => ("TileBinsModel", "wide", "I", false)
  | 2 => ("TileBinsModel", "high", "I", false)
  | 3 => ("TileBinsModel", "side", "I", false)
  | 4 => ("TileBinsModel", "cells", "I", false)
  | 5 => ("TileBinsModel", "items", "I", false)
  | 6 => ("TileBinsModel", "taken", "I", false)
  | 7 => ("TileBinsModel", "left", "[I", true)
  | 8 => ("TileBinsModel", "top", "[I", true)
  | 9 => ("TileBinsModel", "right", "[I", true)
  | 10 => ("TileBinsModel", "bottom", "[I", true)
  | 11 => ("TileBinsModel", "tag", "[I", true)
  | 12 => ("TileBinsModel", "opened", "I", false)
  | _ => ("TileBinsModel", "after", "I", false)
def tyX1 : Nat → FieldType := fun k => match k with
  | 0 => .int
  | 1 => .int
  | 2 => .int
  | 3 => .int
  | 4 => .int
  | 5 => .int
  | 6 => .int
  | 7 => .array .int
  | 8 => .array .int
  | 9 => .array .int
  | 10 => .array .int
  | 11 => .array .int
  | 12 => .int
  | _ => .int
theorem nmX1 : ∀ a, a < 14 → ∀ b, b < 14 → a ≠ b → (TX1 a).2.1 ≠ (TX1 b).2.1 := by decide +kernel
theorem tyX1_ok : ∀ k, k < 14 → parseFieldDescriptor (TX1 k).2.2.1 = some (tyX1 k) := by decide +kernel
abbrev vwCl : List vw_C := [("TileBins", TX0, 11), ("TileBinsModel", TX1, 14)]
/-- the good words of the tables: every contract here asks for all of them -/
def gb : List Cond := lw_tbl.filter goodWord
theorem gb_in : ∀ w ∈ gb, w ∈ lw_tbl ∧ goodWord w = true := fun w h => List.mem_filter.mp h
theorem gb_of {w : Cond} (h : w ∈ lw_tbl) (hg : goodWord w = true) : w ∈ gb := List.mem_filter.mpr ⟨h, hg⟩
theorem inX0 : ∀ w ∈ u_ws "TileBins" TX0 11, w ∈ gb := by decide +kernel
theorem inX1 : ∀ w ∈ u_ws "TileBinsModel" TX1 14, w ∈ gb := by decide +kernel
abbrev cX0_init : ByteArray := prog_1_method_1_code
abbrev yX0_init : MethodName := ⟨"TileBins", "<init>", "()V"⟩
abbrev cX0_field : ByteArray := prog_1_method_2_code
abbrev yX0_field : MethodName := ⟨"TileBins", "field", "(IIII)I"⟩
abbrev cX0_put : ByteArray := prog_1_method_3_code
abbrev yX0_put : MethodName := ⟨"TileBins", "put", "(IIIII)I"⟩
abbrev cX0_empty : ByteArray := prog_1_method_4_code
abbrev yX0_empty : MethodName := ⟨"TileBins", "empty", "()V"⟩
abbrev cX0_open : ByteArray := prog_1_method_5_code
abbrev yX0_open : MethodName := ⟨"TileBins", "open", "(I)I"⟩
abbrev cX0_next : ByteArray := prog_1_method_6_code
abbrev yX0_next : MethodName := ⟨"TileBins", "next", "()I"⟩
abbrev cX0_item : ByteArray := prog_1_method_7_code
abbrev yX0_item : MethodName := ⟨"TileBins", "item", "(II)I"⟩
abbrev cX0_tile : ByteArray := prog_1_method_8_code
abbrev yX0_tile : MethodName := ⟨"TileBins", "tile", "(II)I"⟩
abbrev cX0_tileOf : ByteArray := prog_1_method_9_code
abbrev yX0_tileOf : MethodName := ⟨"TileBins", "tileOf", "(II)I"⟩
abbrev cX0_count : ByteArray := prog_1_method_10_code
abbrev yX0_count : MethodName := ⟨"TileBins", "count", "(I)I"⟩
abbrev cX0_layOut : ByteArray := prog_1_method_11_code
abbrev yX0_layOut : MethodName := ⟨"TileBins", "layOut", "(IIII)V"⟩
abbrev cX0_takeAllOut : ByteArray := prog_1_method_12_code
abbrev yX0_takeAllOut : MethodName := ⟨"TileBins", "takeAllOut", "()V"⟩
abbrev cX0_makeRoom : ByteArray := prog_1_method_13_code
abbrev yX0_makeRoom : MethodName := ⟨"TileBins", "makeRoom", "()V"⟩
abbrev cX0_tilesAcross : ByteArray := prog_1_method_14_code
abbrev yX0_tilesAcross : MethodName := ⟨"TileBins", "tilesAcross", "(II)I"⟩
abbrev cX0_tilesInAll : ByteArray := prog_1_method_15_code
abbrev yX0_tilesInAll : MethodName := ⟨"TileBins", "tilesInAll", "()I"⟩
abbrev cX0_isTile : ByteArray := prog_1_method_16_code
abbrev yX0_isTile : MethodName := ⟨"TileBins", "isTile", "(I)Z"⟩
abbrev cX0_sideLength : ByteArray := prog_1_method_17_code
abbrev yX0_sideLength : MethodName := ⟨"TileBins", "sideLength", "()I"⟩
abbrev cX0_leftOf : ByteArray := prog_1_method_18_code
abbrev yX0_leftOf : MethodName := ⟨"TileBins", "leftOf", "(I)I"⟩
abbrev cX0_topOf : ByteArray := prog_1_method_19_code
abbrev yX0_topOf : MethodName := ⟨"TileBins", "topOf", "(I)I"⟩
abbrev cX0_itemsTouching : ByteArray := prog_1_method_20_code
abbrev yX0_itemsTouching : MethodName := ⟨"TileBins", "itemsTouching", "(I)I"⟩
abbrev cX0_firstTouching : ByteArray := prog_1_method_21_code
abbrev yX0_firstTouching : MethodName := ⟨"TileBins", "firstTouching", "(II)I"⟩
abbrev cX0_touches : ByteArray := prog_1_method_22_code
abbrev yX0_touches : MethodName := ⟨"TileBins", "touches", "(III)Z"⟩
abbrev cX0_isWithin : ByteArray := prog_1_method_23_code
abbrev yX0_isWithin : MethodName := ⟨"TileBins", "isWithin", "(III)Z"⟩
abbrev cX0_powerOf : ByteArray := prog_1_method_24_code
abbrev yX0_powerOf : MethodName := ⟨"TileBins", "powerOf", "(I)I"⟩
abbrev cX1_init : ByteArray := prog_3_method_1_code
abbrev yX1_init : MethodName := ⟨"TileBinsModel", "<init>", "()V"⟩
abbrev cX1_thrown : ByteArray := prog_3_method_2_code
abbrev yX1_thrown : MethodName := ⟨"TileBinsModel", "thrown", "()I"⟩
abbrev cX1_refuse : ByteArray := prog_3_method_3_code
abbrev yX1_refuse : MethodName := ⟨"TileBinsModel", "refuse", "(ZZ)Z"⟩
abbrev cX1_in : ByteArray := prog_3_method_4_code
abbrev yX1_in : MethodName := ⟨"TileBinsModel", "in", "(III)Z"⟩
abbrev cX1_across : ByteArray := prog_3_method_5_code
abbrev yX1_across : MethodName := ⟨"TileBinsModel", "across", "()I"⟩
abbrev cX1_tiles : ByteArray := prog_3_method_6_code
abbrev yX1_tiles : MethodName := ⟨"TileBinsModel", "tiles", "()I"⟩
abbrev cX1_isTile : ByteArray := prog_3_method_7_code
abbrev yX1_isTile : MethodName := ⟨"TileBinsModel", "isTile", "(I)Z"⟩
abbrev cX1_field : ByteArray := prog_3_method_8_code
abbrev yX1_field : MethodName := ⟨"TileBinsModel", "field", "(IIII)I"⟩
abbrev cX1_least : ByteArray := prog_3_method_9_code
abbrev yX1_least : MethodName := ⟨"TileBinsModel", "least", "(II)I"⟩
abbrev cX1_greatest : ByteArray := prog_3_method_10_code
abbrev yX1_greatest : MethodName := ⟨"TileBinsModel", "greatest", "(II)I"⟩
abbrev cX1_edge : ByteArray := prog_3_method_11_code
abbrev yX1_edge : MethodName := ⟨"TileBinsModel", "edge", "(II)I"⟩
abbrev cX1_isEmpty : ByteArray := prog_3_method_12_code
abbrev yX1_isEmpty : MethodName := ⟨"TileBinsModel", "isEmpty", "(IIII)Z"⟩
abbrev cX1_touches : ByteArray := prog_3_method_13_code
abbrev yX1_touches : MethodName := ⟨"TileBinsModel", "touches", "(II)Z"⟩
abbrev cX1_tilesOf : ByteArray := prog_3_method_14_code
abbrev yX1_tilesOf : MethodName := ⟨"TileBinsModel", "tilesOf", "(I)I"⟩
abbrev cX1_put : ByteArray := prog_3_method_15_code
abbrev yX1_put : MethodName := ⟨"TileBinsModel", "put", "(IIIII)I"⟩
abbrev cX1_empty : ByteArray := prog_3_method_16_code
abbrev yX1_empty : MethodName := ⟨"TileBinsModel", "empty", "()V"⟩
abbrev cX1_manyOf : ByteArray := prog_3_method_17_code
abbrev yX1_manyOf : MethodName := ⟨"TileBinsModel", "manyOf", "(I)I"⟩
abbrev cX1_open : ByteArray := prog_3_method_18_code
abbrev yX1_open : MethodName := ⟨"TileBinsModel", "open", "(I)I"⟩
abbrev cX1_next : ByteArray := prog_3_method_19_code
abbrev yX1_next : MethodName := ⟨"TileBinsModel", "next", "()I"⟩
abbrev cX1_item : ByteArray := prog_3_method_20_code
abbrev yX1_item : MethodName := ⟨"TileBinsModel", "item", "(II)I"⟩
abbrev cX1_tile : ByteArray := prog_3_method_21_code
abbrev yX1_tile : MethodName := ⟨"TileBinsModel", "tile", "(II)I"⟩
abbrev cX1_tileOf : ByteArray := prog_3_method_22_code
abbrev yX1_tileOf : MethodName := ⟨"TileBinsModel", "tileOf", "(II)I"⟩
abbrev cX1_count : ByteArray := prog_3_method_23_code
abbrev yX1_count : MethodName := ⟨"TileBinsModel", "count", "(I)I"⟩
abbrev cL_field : ByteArray := method_3_code
abbrev yL_field : MethodName := ⟨"TileBinsLaw", "field", "(LTileBins;IIII[J)I"⟩
abbrev cL_put : ByteArray := method_4_code
abbrev yL_put : MethodName := ⟨"TileBinsLaw", "put", "(LTileBins;IIIII[J)I"⟩
abbrev cL_open : ByteArray := method_5_code
abbrev yL_open : MethodName := ⟨"TileBinsLaw", "open", "(LTileBins;I[J)I"⟩
abbrev cL_next : ByteArray := method_6_code
abbrev yL_next : MethodName := ⟨"TileBinsLaw", "next", "(LTileBins;[J)I"⟩
abbrev cL_item : ByteArray := method_7_code
abbrev yL_item : MethodName := ⟨"TileBinsLaw", "item", "(LTileBins;II[J)I"⟩
abbrev cL_tile : ByteArray := method_8_code
abbrev yL_tile : MethodName := ⟨"TileBinsLaw", "tile", "(LTileBins;II[J)I"⟩
abbrev cL_tileOf : ByteArray := method_9_code
abbrev yL_tileOf : MethodName := ⟨"TileBinsLaw", "tileOf", "(LTileBins;II[J)I"⟩
abbrev cL_count : ByteArray := method_10_code
abbrev yL_count : MethodName := ⟨"TileBinsLaw", "count", "(LTileBins;I[J)I"⟩
abbrev yL_law : MethodName := ⟨"TileBinsLaw", "law", "([I)Z"⟩
abbrev cJ7_copyOf : ByteArray := prog_14_method_123_code
abbrev yJ7_copyOf : MethodName := ⟨"java/util/Arrays", "copyOf", "([II)[I"⟩
theorem kw_0 : (.selects "TileBins" ⟨"TileBins", "layOut", "(IIII)V"⟩ ⟨"TileBins", "layOut", "(IIII)V"⟩ : Cond) ∈ gb := gb_of (List.mem_of_getElem? (i := 0) (by decide +kernel)) (by decide +kernel)
theorem kw_1 : (.selects "TileBins" ⟨"TileBins", "tilesAcross", "(II)I"⟩ ⟨"TileBins", "tilesAcross", "(II)I"⟩ : Cond) ∈ gb := gb_of (List.mem_of_getElem? (i := 1) (by decide +kernel)) (by decide +kernel)
theorem kw_2 : (.selects "TileBins" ⟨"TileBins", "takeAllOut", "()V"⟩ ⟨"TileBins", "takeAllOut", "()V"⟩ : Cond) ∈ gb := gb_of (List.mem_of_getElem? (i := 2) (by decide +kernel)) (by decide +kernel)
theorem kw_3 : (.selects "java/lang/Throwable" ⟨"java/lang/Throwable", "fillInStackTrace", "(I)Ljava/lang/Throwable;"⟩ ⟨"java/lang/Throwable", "fillInStackTrace", "(I)Ljava/lang/Throwable;"⟩ : Cond) ∈ gb := gb_of (List.mem_of_getElem? (i := 3) (by decide +kernel)) (by decide +kernel)
theorem kw_4 : (.selects "TileBins" ⟨"TileBins", "tilesInAll", "()I"⟩ ⟨"TileBins", "tilesInAll", "()I"⟩ : Cond) ∈ gb := gb_of (List.mem_of_getElem? (i := 4) (by decide +kernel)) (by decide +kernel)
theorem kw_5 : (.selects "TileBins" ⟨"TileBins", "makeRoom", "()V"⟩ ⟨"TileBins", "makeRoom", "()V"⟩ : Cond) ∈ gb := gb_of (List.mem_of_getElem? (i := 5) (by decide +kernel)) (by decide +kernel)
theorem kw_6 : (.selects "TileBins" ⟨"TileBins", "isTile", "(I)Z"⟩ ⟨"TileBins", "isTile", "(I)Z"⟩ : Cond) ∈ gb := gb_of (List.mem_of_getElem? (i := 6) (by decide +kernel)) (by decide +kernel)
theorem kw_7 : (.selects "TileBins" ⟨"TileBins", "itemsTouching", "(I)I"⟩ ⟨"TileBins", "itemsTouching", "(I)I"⟩ : Cond) ∈ gb := gb_of (List.mem_of_getElem? (i := 7) (by decide +kernel)) (by decide +kernel)
theorem kw_8 : (.selects "TileBins" ⟨"TileBins", "leftOf", "(I)I"⟩ ⟨"TileBins", "leftOf", "(I)I"⟩ : Cond) ∈ gb := gb_of (List.mem_of_getElem? (i := 8) (by decide +kernel)) (by decide +kernel)
theorem kw_9 : (.selects "TileBins" ⟨"TileBins", "topOf", "(I)I"⟩ ⟨"TileBins", "topOf", "(I)I"⟩ : Cond) ∈ gb := gb_of (List.mem_of_getElem? (i := 9) (by decide +kernel)) (by decide +kernel)
theorem kw_10 : (.selects "TileBins" ⟨"TileBins", "touches", "(III)Z"⟩ ⟨"TileBins", "touches", "(III)Z"⟩ : Cond) ∈ gb := gb_of (List.mem_of_getElem? (i := 10) (by decide +kernel)) (by decide +kernel)
theorem kw_11 : (.selects "TileBins" ⟨"TileBins", "sideLength", "()I"⟩ ⟨"TileBins", "sideLength", "()I"⟩ : Cond) ∈ gb := gb_of (List.mem_of_getElem? (i := 11) (by decide +kernel)) (by decide +kernel)
theorem kw_12 : (.selects "TileBins" ⟨"TileBins", "firstTouching", "(II)I"⟩ ⟨"TileBins", "firstTouching", "(II)I"⟩ : Cond) ∈ gb := gb_of (List.mem_of_getElem? (i := 12) (by decide +kernel)) (by decide +kernel)
theorem kw_13 : (.selects "TileBinsModel" ⟨"TileBinsModel", "refuse", "(ZZ)Z"⟩ ⟨"TileBinsModel", "refuse", "(ZZ)Z"⟩ : Cond) ∈ gb := gb_of (List.mem_of_getElem? (i := 13) (by decide +kernel)) (by decide +kernel)
theorem kw_14 : (.selects "TileBinsModel" ⟨"TileBinsModel", "tiles", "()I"⟩ ⟨"TileBinsModel", "tiles", "()I"⟩ : Cond) ∈ gb := gb_of (List.mem_of_getElem? (i := 14) (by decide +kernel)) (by decide +kernel)
theorem kw_15 : (.selects "TileBinsModel" ⟨"TileBinsModel", "across", "()I"⟩ ⟨"TileBinsModel", "across", "()I"⟩ : Cond) ∈ gb := gb_of (List.mem_of_getElem? (i := 15) (by decide +kernel)) (by decide +kernel)
theorem kw_16 : (.selects "TileBinsModel" ⟨"TileBinsModel", "tilesOf", "(I)I"⟩ ⟨"TileBinsModel", "tilesOf", "(I)I"⟩ : Cond) ∈ gb := gb_of (List.mem_of_getElem? (i := 16) (by decide +kernel)) (by decide +kernel)
theorem kw_17 : (.selects "TileBinsModel" ⟨"TileBinsModel", "touches", "(II)Z"⟩ ⟨"TileBinsModel", "touches", "(II)Z"⟩ : Cond) ∈ gb := gb_of (List.mem_of_getElem? (i := 17) (by decide +kernel)) (by decide +kernel)
theorem kw_18 : (.selects "TileBinsModel" ⟨"TileBinsModel", "edge", "(II)I"⟩ ⟨"TileBinsModel", "edge", "(II)I"⟩ : Cond) ∈ gb := gb_of (List.mem_of_getElem? (i := 18) (by decide +kernel)) (by decide +kernel)
theorem kw_19 : (.selects "TileBinsModel" ⟨"TileBinsModel", "isTile", "(I)Z"⟩ ⟨"TileBinsModel", "isTile", "(I)Z"⟩ : Cond) ∈ gb := gb_of (List.mem_of_getElem? (i := 19) (by decide +kernel)) (by decide +kernel)
theorem kw_20 : (.selects "TileBinsModel" ⟨"TileBinsModel", "manyOf", "(I)I"⟩ ⟨"TileBinsModel", "manyOf", "(I)I"⟩ : Cond) ∈ gb := gb_of (List.mem_of_getElem? (i := 20) (by decide +kernel)) (by decide +kernel)
theorem kw_21 : (.initialized "TileBinsLaw" : Cond) ∈ gb := gb_of (List.mem_of_getElem? (i := 21) (by decide +kernel)) (by decide +kernel)
theorem kw_22 : (.initialized "TileBins" : Cond) ∈ gb := gb_of (List.mem_of_getElem? (i := 22) (by decide +kernel)) (by decide +kernel)
theorem kw_23 : (.initialized "TileBinsModel" : Cond) ∈ gb := gb_of (List.mem_of_getElem? (i := 23) (by decide +kernel)) (by decide +kernel)
theorem kw_24 : (.initialized "java/lang/Throwable" : Cond) ∈ gb := gb_of (List.mem_of_getElem? (i := 24) (by decide +kernel)) (by decide +kernel)
theorem kw_25 : (.initialized "java/lang/Exception" : Cond) ∈ gb := gb_of (List.mem_of_getElem? (i := 25) (by decide +kernel)) (by decide +kernel)
theorem kw_26 : (.initialized "java/lang/RuntimeException" : Cond) ∈ gb := gb_of (List.mem_of_getElem? (i := 26) (by decide +kernel)) (by decide +kernel)
theorem kw_27 : (.initialized "java/lang/IllegalArgumentException" : Cond) ∈ gb := gb_of (List.mem_of_getElem? (i := 27) (by decide +kernel)) (by decide +kernel)
theorem kw_28 : (.initialized "java/lang/Math" : Cond) ∈ gb := gb_of (List.mem_of_getElem? (i := 28) (by decide +kernel)) (by decide +kernel)
theorem kw_29 : (.initialized "java/lang/IllegalStateException" : Cond) ∈ gb := gb_of (List.mem_of_getElem? (i := 29) (by decide +kernel)) (by decide +kernel)
theorem kw_30 : (.initialized "java/util/Arrays" : Cond) ∈ gb := gb_of (List.mem_of_getElem? (i := 30) (by decide +kernel)) (by decide +kernel)
theorem kw_31 : (.initialized "java/lang/System" : Cond) ∈ gb := gb_of (List.mem_of_getElem? (i := 31) (by decide +kernel)) (by decide +kernel)
theorem kw_32 : (.initialized "java/lang/IndexOutOfBoundsException" : Cond) ∈ gb := gb_of (List.mem_of_getElem? (i := 32) (by decide +kernel)) (by decide +kernel)
theorem kw_33 : (.classLink "TileBinsLaw" 8 "TileBins" : Cond) ∈ gb := gb_of (List.mem_of_getElem? (i := 33) (by decide +kernel)) (by decide +kernel)
theorem kw_34 : (.instantiable "TileBins" 11 : Cond) ∈ gb := gb_of (List.mem_of_getElem? (i := 34) (by decide +kernel)) (by decide +kernel)
theorem kw_35 : (.methodLink "TileBinsLaw" 44 ⟨"TileBins", "<init>", "()V"⟩ : Cond) ∈ gb := gb_of (List.mem_of_getElem? (i := 35) (by decide +kernel)) (by decide +kernel)
theorem kw_36 : (.instanceMethod ⟨"TileBins", "<init>", "()V"⟩ : Cond) ∈ gb := gb_of (List.mem_of_getElem? (i := 36) (by decide +kernel)) (by decide +kernel)
theorem kw_37 : (.code ⟨"TileBins", "<init>", "()V"⟩ prog_1_method_1_code 1 (Option.none : Option ClassFile.FieldType) : Cond) ∈ gb := gb_of (List.mem_of_getElem? (i := 37) (by decide +kernel)) (by decide +kernel)
theorem kw_38 : (.methodLink "TileBins" 1 ⟨"java/lang/Object", "<init>", "()V"⟩ : Cond) ∈ gb := gb_of (List.mem_of_getElem? (i := 38) (by decide +kernel)) (by decide +kernel)
theorem kw_39 : (.instanceMethod ⟨"java/lang/Object", "<init>", "()V"⟩ : Cond) ∈ gb := gb_of (List.mem_of_getElem? (i := 39) (by decide +kernel)) (by decide +kernel)
theorem kw_40 : (.code ⟨"java/lang/Object", "<init>", "()V"⟩ object_method_1_code 1 (Option.none : Option ClassFile.FieldType) : Cond) ∈ gb := gb_of (List.mem_of_getElem? (i := 40) (by decide +kernel)) (by decide +kernel)
theorem kw_41 : (.methodLink "TileBins" 13 ⟨"TileBins", "layOut", "(IIII)V"⟩ : Cond) ∈ gb := gb_of (List.mem_of_getElem? (i := 41) (by decide +kernel)) (by decide +kernel)
theorem kw_43 : (.instanceMethod ⟨"TileBins", "layOut", "(IIII)V"⟩ : Cond) ∈ gb := gb_of (List.mem_of_getElem? (i := 43) (by decide +kernel)) (by decide +kernel)
theorem kw_44 : (.code ⟨"TileBins", "layOut", "(IIII)V"⟩ prog_1_method_11_code 5 (Option.none : Option ClassFile.FieldType) : Cond) ∈ gb := gb_of (List.mem_of_getElem? (i := 44) (by decide +kernel)) (by decide +kernel)
theorem kw_45 : (.methodLink "TileBins" 56 ⟨"TileBins", "tilesAcross", "(II)I"⟩ : Cond) ∈ gb := gb_of (List.mem_of_getElem? (i := 45) (by decide +kernel)) (by decide +kernel)
theorem kw_47 : (.instanceMethod ⟨"TileBins", "tilesAcross", "(II)I"⟩ : Cond) ∈ gb := gb_of (List.mem_of_getElem? (i := 47) (by decide +kernel)) (by decide +kernel)
theorem kw_48 : (.code ⟨"TileBins", "tilesAcross", "(II)I"⟩ prog_1_method_14_code 3 (Option.some .int) : Cond) ∈ gb := gb_of (List.mem_of_getElem? (i := 48) (by decide +kernel)) (by decide +kernel)
theorem kw_49 : (.methodLink "TileBins" 76 ⟨"TileBins", "takeAllOut", "()V"⟩ : Cond) ∈ gb := gb_of (List.mem_of_getElem? (i := 49) (by decide +kernel)) (by decide +kernel)
theorem kw_51 : (.instanceMethod ⟨"TileBins", "takeAllOut", "()V"⟩ : Cond) ∈ gb := gb_of (List.mem_of_getElem? (i := 51) (by decide +kernel)) (by decide +kernel)
theorem kw_52 : (.code ⟨"TileBins", "takeAllOut", "()V"⟩ prog_1_method_12_code 1 (Option.none : Option ClassFile.FieldType) : Cond) ∈ gb := gb_of (List.mem_of_getElem? (i := 52) (by decide +kernel)) (by decide +kernel)
theorem kw_53 : (.fieldLink "TileBins" 46 "TileBins" "wide" "I" : Cond) ∈ gb := gb_of (List.mem_of_getElem? (i := 53) (by decide +kernel)) (by decide +kernel)
theorem kw_54 : (.fieldLink "TileBins" 53 "TileBins" "high" "I" : Cond) ∈ gb := gb_of (List.mem_of_getElem? (i := 54) (by decide +kernel)) (by decide +kernel)
theorem kw_55 : (.fieldLink "TileBins" 119 "TileBins" "shift" "I" : Cond) ∈ gb := gb_of (List.mem_of_getElem? (i := 55) (by decide +kernel)) (by decide +kernel)
theorem kw_56 : (.fieldLink "TileBins" 122 "TileBins" "columns" "I" : Cond) ∈ gb := gb_of (List.mem_of_getElem? (i := 56) (by decide +kernel)) (by decide +kernel)
theorem kw_57 : (.fieldLink "TileBins" 127 "TileBins" "lines" "I" : Cond) ∈ gb := gb_of (List.mem_of_getElem? (i := 57) (by decide +kernel)) (by decide +kernel)
theorem kw_58 : (.fieldLink "TileBins" 62 "TileBins" "cells" "I" : Cond) ∈ gb := gb_of (List.mem_of_getElem? (i := 58) (by decide +kernel)) (by decide +kernel)
theorem kw_59 : (.fieldLink "TileBins" 9 "TileBins" "parts" "[I" : Cond) ∈ gb := gb_of (List.mem_of_getElem? (i := 59) (by decide +kernel)) (by decide +kernel)
theorem kw_60 : (.fieldLink "TileBins" 59 "TileBins" "items" "I" : Cond) ∈ gb := gb_of (List.mem_of_getElem? (i := 60) (by decide +kernel)) (by decide +kernel)
theorem kw_61 : (.fieldLink "TileBins" 65 "TileBins" "taken" "I" : Cond) ∈ gb := gb_of (List.mem_of_getElem? (i := 61) (by decide +kernel)) (by decide +kernel)
theorem kw_62 : (.fieldLink "TileBins" 85 "TileBins" "opened" "I" : Cond) ∈ gb := gb_of (List.mem_of_getElem? (i := 62) (by decide +kernel)) (by decide +kernel)
theorem kw_63 : (.fieldLink "TileBins" 88 "TileBins" "ahead" "I" : Cond) ∈ gb := gb_of (List.mem_of_getElem? (i := 63) (by decide +kernel)) (by decide +kernel)
theorem kw_87 : (.arrayClass .int : Cond) ∈ gb := gb_of (List.mem_of_getElem? (i := 87) (by decide +kernel)) (by decide +kernel)
theorem kw_88 : (.methodLink "TileBinsLaw" 61 ⟨"TileBins", "empty", "()V"⟩ : Cond) ∈ gb := gb_of (List.mem_of_getElem? (i := 88) (by decide +kernel)) (by decide +kernel)
theorem kw_89 : (.instanceMethod ⟨"TileBins", "empty", "()V"⟩ : Cond) ∈ gb := gb_of (List.mem_of_getElem? (i := 89) (by decide +kernel)) (by decide +kernel)
theorem kw_90 : (.selects "TileBins" ⟨"TileBins", "empty", "()V"⟩ ⟨"TileBins", "empty", "()V"⟩ : Cond) ∈ gb := gb_of (List.mem_of_getElem? (i := 90) (by decide +kernel)) (by decide +kernel)
theorem kw_91 : (.code ⟨"TileBins", "empty", "()V"⟩ prog_1_method_4_code 1 (Option.none : Option ClassFile.FieldType) : Cond) ∈ gb := gb_of (List.mem_of_getElem? (i := 91) (by decide +kernel)) (by decide +kernel)
theorem kw_92 : (.methodLink "TileBinsLaw" 48 ⟨"TileBinsLaw", "field", "(LTileBins;IIII[J)I"⟩ : Cond) ∈ gb := gb_of (List.mem_of_getElem? (i := 92) (by decide +kernel)) (by decide +kernel)
theorem kw_93 : (.static ⟨"TileBinsLaw", "field", "(LTileBins;IIII[J)I"⟩ : Cond) ∈ gb := gb_of (List.mem_of_getElem? (i := 93) (by decide +kernel)) (by decide +kernel)
theorem kw_94 : (.codeWith ⟨"TileBinsLaw", "field", "(LTileBins;IIII[J)I"⟩ method_3_code 7 (Option.some .int) [(0, 14, 17, 13)] : Cond) ∈ gb := gb_of (List.mem_of_getElem? (i := 94) (by decide +kernel)) (by decide +kernel)
theorem kw_95 : (.classLink "TileBinsLaw" 13 "java/lang/IllegalArgumentException" : Cond) ∈ gb := gb_of (List.mem_of_getElem? (i := 95) (by decide +kernel)) (by decide +kernel)
theorem kw_96 : (.methodLink "TileBinsLaw" 7 ⟨"TileBins", "field", "(IIII)I"⟩ : Cond) ∈ gb := gb_of (List.mem_of_getElem? (i := 96) (by decide +kernel)) (by decide +kernel)
theorem kw_97 : (.instanceMethod ⟨"TileBins", "field", "(IIII)I"⟩ : Cond) ∈ gb := gb_of (List.mem_of_getElem? (i := 97) (by decide +kernel)) (by decide +kernel)
theorem kw_98 : (.selects "TileBins" ⟨"TileBins", "field", "(IIII)I"⟩ ⟨"TileBins", "field", "(IIII)I"⟩ : Cond) ∈ gb := gb_of (List.mem_of_getElem? (i := 98) (by decide +kernel)) (by decide +kernel)
theorem kw_99 : (.code ⟨"TileBins", "field", "(IIII)I"⟩ prog_1_method_2_code 6 (Option.some .int) : Cond) ∈ gb := gb_of (List.mem_of_getElem? (i := 99) (by decide +kernel)) (by decide +kernel)
theorem kw_100 : (.methodLink "TileBins" 17 ⟨"TileBins", "isWithin", "(III)Z"⟩ : Cond) ∈ gb := gb_of (List.mem_of_getElem? (i := 100) (by decide +kernel)) (by decide +kernel)
theorem kw_101 : (.static ⟨"TileBins", "isWithin", "(III)Z"⟩ : Cond) ∈ gb := gb_of (List.mem_of_getElem? (i := 101) (by decide +kernel)) (by decide +kernel)
theorem kw_102 : (.code ⟨"TileBins", "isWithin", "(III)Z"⟩ prog_1_method_23_code 3 (Option.some .boolean) : Cond) ∈ gb := gb_of (List.mem_of_getElem? (i := 102) (by decide +kernel)) (by decide +kernel)
theorem kw_103 : (.classLink "TileBins" 21 "java/lang/IllegalArgumentException" : Cond) ∈ gb := gb_of (List.mem_of_getElem? (i := 103) (by decide +kernel)) (by decide +kernel)
theorem kw_104 : (.instantiable "java/lang/IllegalArgumentException" 6 : Cond) ∈ gb := gb_of (List.mem_of_getElem? (i := 104) (by decide +kernel)) (by decide +kernel)
theorem kw_112 : (.selects "java/lang/IllegalArgumentException" ⟨"java/lang/Throwable", "fillInStackTrace", "(I)Ljava/lang/Throwable;"⟩ ⟨"java/lang/Throwable", "fillInStackTrace", "(I)Ljava/lang/Throwable;"⟩ : Cond) ∈ gb := gb_of (List.mem_of_getElem? (i := 112) (by decide +kernel)) (by decide +kernel)
theorem kw_113 : (.selects "java/lang/IllegalArgumentException" ⟨"java/lang/Throwable", "fillInStackTrace", "()Ljava/lang/Throwable;"⟩ ⟨"java/lang/Throwable", "fillInStackTrace", "()Ljava/lang/Throwable;"⟩ : Cond) ∈ gb := gb_of (List.mem_of_getElem? (i := 113) (by decide +kernel)) (by decide +kernel)
theorem kw_124 : (.fieldLink "java/lang/Throwable" 198 "java/lang/Throwable" "backtrace" "Ljava/lang/Object;" : Cond) ∈ gb := gb_of (List.mem_of_getElem? (i := 124) (by decide +kernel)) (by decide +kernel)
theorem kw_126 : (.instanceMethod ⟨"java/lang/Throwable", "<init>", "()V"⟩ : Cond) ∈ gb := gb_of (List.mem_of_getElem? (i := 126) (by decide +kernel)) (by decide +kernel)
theorem kw_127 : (.code ⟨"java/lang/Throwable", "<init>", "()V"⟩ prog_13_method_1_code 1 (Option.none : Option ClassFile.FieldType) : Cond) ∈ gb := gb_of (List.mem_of_getElem? (i := 127) (by decide +kernel)) (by decide +kernel)
theorem kw_128 : (.methodLink "java/lang/Throwable" 1 ⟨"java/lang/Object", "<init>", "()V"⟩ : Cond) ∈ gb := gb_of (List.mem_of_getElem? (i := 128) (by decide +kernel)) (by decide +kernel)
theorem kw_129 : (.fieldLink "java/lang/Throwable" 13 "java/lang/Throwable" "UNASSIGNED_STACK" "[Ljava/lang/StackTraceElement;" : Cond) ∈ gb := gb_of (List.mem_of_getElem? (i := 129) (by decide +kernel)) (by decide +kernel)
theorem kw_131 : (.fieldLink "java/lang/Throwable" 20 "java/lang/Throwable" "SUPPRESSED_SENTINEL" "Ljava/util/List;" : Cond) ∈ gb := gb_of (List.mem_of_getElem? (i := 131) (by decide +kernel)) (by decide +kernel)
theorem kw_133 : (.methodLink "java/lang/Throwable" 27 ⟨"java/lang/Throwable", "fillInStackTrace", "()Ljava/lang/Throwable;"⟩ : Cond) ∈ gb := gb_of (List.mem_of_getElem? (i := 133) (by decide +kernel)) (by decide +kernel)
theorem kw_134 : (.instanceMethod ⟨"java/lang/Throwable", "fillInStackTrace", "()Ljava/lang/Throwable;"⟩ : Cond) ∈ gb := gb_of (List.mem_of_getElem? (i := 134) (by decide +kernel)) (by decide +kernel)
theorem kw_135 : (.sameMethod "java/lang/Throwable" "java/lang/Throwable" "fillInStackTrace" "()Ljava/lang/Throwable;" : Cond) ∈ gb := gb_of (List.mem_of_getElem? (i := 135) (by decide +kernel)) (by decide +kernel)
theorem kw_136 : (.selects "java/lang/IllegalStateException" ⟨"java/lang/Throwable", "fillInStackTrace", "()Ljava/lang/Throwable;"⟩ ⟨"java/lang/Throwable", "fillInStackTrace", "()Ljava/lang/Throwable;"⟩ : Cond) ∈ gb := gb_of (List.mem_of_getElem? (i := 136) (by decide +kernel)) (by decide +kernel)
theorem kw_137 : (.selects "java/lang/IndexOutOfBoundsException" ⟨"java/lang/Throwable", "fillInStackTrace", "()Ljava/lang/Throwable;"⟩ ⟨"java/lang/Throwable", "fillInStackTrace", "()Ljava/lang/Throwable;"⟩ : Cond) ∈ gb := gb_of (List.mem_of_getElem? (i := 137) (by decide +kernel)) (by decide +kernel)
theorem kw_139 : (.methodLink "java/lang/Throwable" 202 ⟨"java/lang/Throwable", "fillInStackTrace", "(I)Ljava/lang/Throwable;"⟩ : Cond) ∈ gb := gb_of (List.mem_of_getElem? (i := 139) (by decide +kernel)) (by decide +kernel)
theorem kw_141 : (.instanceMethod ⟨"java/lang/Throwable", "fillInStackTrace", "(I)Ljava/lang/Throwable;"⟩ : Cond) ∈ gb := gb_of (List.mem_of_getElem? (i := 141) (by decide +kernel)) (by decide +kernel)
theorem kw_142 : (.instantiable "java/lang/Throwable" 6 : Cond) ∈ gb := gb_of (List.mem_of_getElem? (i := 142) (by decide +kernel)) (by decide +kernel)
theorem kw_143 : (.native ⟨"java/lang/Throwable", "fillInStackTrace", "(I)Ljava/lang/Throwable;"⟩ : Cond) ∈ gb := gb_of (List.mem_of_getElem? (i := 143) (by decide +kernel)) (by decide +kernel)
theorem kw_145 : (.methodLink "TileBins" 25 ⟨"java/lang/IllegalArgumentException", "<init>", "(Ljava/lang/String;)V"⟩ : Cond) ∈ gb := gb_of (List.mem_of_getElem? (i := 145) (by decide +kernel)) (by decide +kernel)
theorem kw_146 : (.instanceMethod ⟨"java/lang/IllegalArgumentException", "<init>", "(Ljava/lang/String;)V"⟩ : Cond) ∈ gb := gb_of (List.mem_of_getElem? (i := 146) (by decide +kernel)) (by decide +kernel)
theorem kw_147 : (.code ⟨"java/lang/IllegalArgumentException", "<init>", "(Ljava/lang/String;)V"⟩ prog_6_method_2_code 2 (Option.none : Option ClassFile.FieldType) : Cond) ∈ gb := gb_of (List.mem_of_getElem? (i := 147) (by decide +kernel)) (by decide +kernel)
theorem kw_148 : (.methodLink "java/lang/IllegalArgumentException" 7 ⟨"java/lang/RuntimeException", "<init>", "(Ljava/lang/String;)V"⟩ : Cond) ∈ gb := gb_of (List.mem_of_getElem? (i := 148) (by decide +kernel)) (by decide +kernel)
theorem kw_149 : (.instanceMethod ⟨"java/lang/RuntimeException", "<init>", "(Ljava/lang/String;)V"⟩ : Cond) ∈ gb := gb_of (List.mem_of_getElem? (i := 149) (by decide +kernel)) (by decide +kernel)
theorem kw_150 : (.code ⟨"java/lang/RuntimeException", "<init>", "(Ljava/lang/String;)V"⟩ prog_10_method_2_code 2 (Option.none : Option ClassFile.FieldType) : Cond) ∈ gb := gb_of (List.mem_of_getElem? (i := 150) (by decide +kernel)) (by decide +kernel)
theorem kw_151 : (.methodLink "java/lang/RuntimeException" 7 ⟨"java/lang/Exception", "<init>", "(Ljava/lang/String;)V"⟩ : Cond) ∈ gb := gb_of (List.mem_of_getElem? (i := 151) (by decide +kernel)) (by decide +kernel)
theorem kw_152 : (.instanceMethod ⟨"java/lang/Exception", "<init>", "(Ljava/lang/String;)V"⟩ : Cond) ∈ gb := gb_of (List.mem_of_getElem? (i := 152) (by decide +kernel)) (by decide +kernel)
theorem kw_153 : (.code ⟨"java/lang/Exception", "<init>", "(Ljava/lang/String;)V"⟩ prog_5_method_2_code 2 (Option.none : Option ClassFile.FieldType) : Cond) ∈ gb := gb_of (List.mem_of_getElem? (i := 153) (by decide +kernel)) (by decide +kernel)
theorem kw_154 : (.methodLink "java/lang/Exception" 7 ⟨"java/lang/Throwable", "<init>", "(Ljava/lang/String;)V"⟩ : Cond) ∈ gb := gb_of (List.mem_of_getElem? (i := 154) (by decide +kernel)) (by decide +kernel)
theorem kw_155 : (.instanceMethod ⟨"java/lang/Throwable", "<init>", "(Ljava/lang/String;)V"⟩ : Cond) ∈ gb := gb_of (List.mem_of_getElem? (i := 155) (by decide +kernel)) (by decide +kernel)
theorem kw_156 : (.code ⟨"java/lang/Throwable", "<init>", "(Ljava/lang/String;)V"⟩ prog_13_method_2_code 2 (Option.none : Option ClassFile.FieldType) : Cond) ∈ gb := gb_of (List.mem_of_getElem? (i := 156) (by decide +kernel)) (by decide +kernel)
theorem kw_158 : (.fieldLink "java/lang/Throwable" 31 "java/lang/Throwable" "detailMessage" "Ljava/lang/String;" : Cond) ∈ gb := gb_of (List.mem_of_getElem? (i := 158) (by decide +kernel)) (by decide +kernel)
theorem kw_159 : (.fieldLink "java/lang/Throwable" 7 "java/lang/Throwable" "cause" "Ljava/lang/Throwable;" : Cond) ∈ gb := gb_of (List.mem_of_getElem? (i := 159) (by decide +kernel)) (by decide +kernel)
theorem kw_160 : (.fieldLink "java/lang/Throwable" 17 "java/lang/Throwable" "stackTrace" "[Ljava/lang/StackTraceElement;" : Cond) ∈ gb := gb_of (List.mem_of_getElem? (i := 160) (by decide +kernel)) (by decide +kernel)
theorem kw_161 : (.fieldLink "java/lang/Throwable" 24 "java/lang/Throwable" "suppressedExceptions" "Ljava/util/List;" : Cond) ∈ gb := gb_of (List.mem_of_getElem? (i := 161) (by decide +kernel)) (by decide +kernel)
theorem kw_170 : (.arrayClass .byte : Cond) ∈ gb := gb_of (List.mem_of_getElem? (i := 170) (by decide +kernel)) (by decide +kernel)
theorem kw_171 : (.methodLink "TileBins" 28 ⟨"TileBins", "powerOf", "(I)I"⟩ : Cond) ∈ gb := gb_of (List.mem_of_getElem? (i := 171) (by decide +kernel)) (by decide +kernel)
theorem kw_172 : (.static ⟨"TileBins", "powerOf", "(I)I"⟩ : Cond) ∈ gb := gb_of (List.mem_of_getElem? (i := 172) (by decide +kernel)) (by decide +kernel)
theorem kw_173 : (.code ⟨"TileBins", "powerOf", "(I)I"⟩ prog_1_method_24_code 1 (Option.some .int) : Cond) ∈ gb := gb_of (List.mem_of_getElem? (i := 173) (by decide +kernel)) (by decide +kernel)
theorem kw_176 : (.methodLink "TileBins" 36 ⟨"TileBins", "tilesInAll", "()I"⟩ : Cond) ∈ gb := gb_of (List.mem_of_getElem? (i := 176) (by decide +kernel)) (by decide +kernel)
theorem kw_178 : (.instanceMethod ⟨"TileBins", "tilesInAll", "()I"⟩ : Cond) ∈ gb := gb_of (List.mem_of_getElem? (i := 178) (by decide +kernel)) (by decide +kernel)
theorem kw_179 : (.code ⟨"TileBins", "tilesInAll", "()I"⟩ prog_1_method_15_code 1 (Option.some .int) : Cond) ∈ gb := gb_of (List.mem_of_getElem? (i := 179) (by decide +kernel)) (by decide +kernel)
theorem kw_180 : (.methodLink "TileBinsLaw" 57 ⟨"TileBinsLaw", "put", "(LTileBins;IIIII[J)I"⟩ : Cond) ∈ gb := gb_of (List.mem_of_getElem? (i := 180) (by decide +kernel)) (by decide +kernel)
theorem kw_181 : (.static ⟨"TileBinsLaw", "put", "(LTileBins;IIIII[J)I"⟩ : Cond) ∈ gb := gb_of (List.mem_of_getElem? (i := 181) (by decide +kernel)) (by decide +kernel)
theorem kw_182 : (.codeWith ⟨"TileBinsLaw", "put", "(LTileBins;IIIII[J)I"⟩ method_4_code 8 (Option.some .int) [(0, 16, 19, 19)] : Cond) ∈ gb := gb_of (List.mem_of_getElem? (i := 182) (by decide +kernel)) (by decide +kernel)
theorem kw_183 : (.classLink "TileBinsLaw" 19 "java/lang/IllegalStateException" : Cond) ∈ gb := gb_of (List.mem_of_getElem? (i := 183) (by decide +kernel)) (by decide +kernel)
theorem kw_184 : (.methodLink "TileBinsLaw" 15 ⟨"TileBins", "put", "(IIIII)I"⟩ : Cond) ∈ gb := gb_of (List.mem_of_getElem? (i := 184) (by decide +kernel)) (by decide +kernel)
theorem kw_185 : (.instanceMethod ⟨"TileBins", "put", "(IIIII)I"⟩ : Cond) ∈ gb := gb_of (List.mem_of_getElem? (i := 185) (by decide +kernel)) (by decide +kernel)
theorem kw_186 : (.selects "TileBins" ⟨"TileBins", "put", "(IIIII)I"⟩ ⟨"TileBins", "put", "(IIIII)I"⟩ : Cond) ∈ gb := gb_of (List.mem_of_getElem? (i := 186) (by decide +kernel)) (by decide +kernel)
theorem kw_187 : (.code ⟨"TileBins", "put", "(IIIII)I"⟩ prog_1_method_3_code 13 (Option.some .int) : Cond) ∈ gb := gb_of (List.mem_of_getElem? (i := 187) (by decide +kernel)) (by decide +kernel)
theorem kw_188 : (.methodLink "TileBins" 40 ⟨"java/lang/Math", "max", "(II)I"⟩ : Cond) ∈ gb := gb_of (List.mem_of_getElem? (i := 188) (by decide +kernel)) (by decide +kernel)
theorem kw_189 : (.static ⟨"java/lang/Math", "max", "(II)I"⟩ : Cond) ∈ gb := gb_of (List.mem_of_getElem? (i := 189) (by decide +kernel)) (by decide +kernel)
theorem kw_190 : (.code ⟨"java/lang/Math", "max", "(II)I"⟩ prog_9_method_65_code 2 (Option.some .int) : Cond) ∈ gb := gb_of (List.mem_of_getElem? (i := 190) (by decide +kernel)) (by decide +kernel)
theorem kw_191 : (.methodLink "TileBins" 50 ⟨"java/lang/Math", "min", "(II)I"⟩ : Cond) ∈ gb := gb_of (List.mem_of_getElem? (i := 191) (by decide +kernel)) (by decide +kernel)
theorem kw_192 : (.static ⟨"java/lang/Math", "min", "(II)I"⟩ : Cond) ∈ gb := gb_of (List.mem_of_getElem? (i := 192) (by decide +kernel)) (by decide +kernel)
theorem kw_193 : (.code ⟨"java/lang/Math", "min", "(II)I"⟩ prog_9_method_69_code 2 (Option.some .int) : Cond) ∈ gb := gb_of (List.mem_of_getElem? (i := 193) (by decide +kernel)) (by decide +kernel)
theorem kw_194 : (.classLink "TileBins" 68 "java/lang/IllegalStateException" : Cond) ∈ gb := gb_of (List.mem_of_getElem? (i := 194) (by decide +kernel)) (by decide +kernel)
theorem kw_195 : (.instantiable "java/lang/IllegalStateException" 6 : Cond) ∈ gb := gb_of (List.mem_of_getElem? (i := 195) (by decide +kernel)) (by decide +kernel)
theorem kw_197 : (.selects "java/lang/IllegalStateException" ⟨"java/lang/Throwable", "fillInStackTrace", "(I)Ljava/lang/Throwable;"⟩ ⟨"java/lang/Throwable", "fillInStackTrace", "(I)Ljava/lang/Throwable;"⟩ : Cond) ∈ gb := gb_of (List.mem_of_getElem? (i := 197) (by decide +kernel)) (by decide +kernel)
theorem kw_204 : (.methodLink "TileBins" 72 ⟨"java/lang/IllegalStateException", "<init>", "(Ljava/lang/String;)V"⟩ : Cond) ∈ gb := gb_of (List.mem_of_getElem? (i := 204) (by decide +kernel)) (by decide +kernel)
theorem kw_205 : (.instanceMethod ⟨"java/lang/IllegalStateException", "<init>", "(Ljava/lang/String;)V"⟩ : Cond) ∈ gb := gb_of (List.mem_of_getElem? (i := 205) (by decide +kernel)) (by decide +kernel)
theorem kw_206 : (.code ⟨"java/lang/IllegalStateException", "<init>", "(Ljava/lang/String;)V"⟩ prog_7_method_2_code 2 (Option.none : Option ClassFile.FieldType) : Cond) ∈ gb := gb_of (List.mem_of_getElem? (i := 206) (by decide +kernel)) (by decide +kernel)
theorem kw_207 : (.methodLink "java/lang/IllegalStateException" 7 ⟨"java/lang/RuntimeException", "<init>", "(Ljava/lang/String;)V"⟩ : Cond) ∈ gb := gb_of (List.mem_of_getElem? (i := 207) (by decide +kernel)) (by decide +kernel)
theorem kw_210 : (.methodLink "TileBins" 73 ⟨"TileBins", "makeRoom", "()V"⟩ : Cond) ∈ gb := gb_of (List.mem_of_getElem? (i := 210) (by decide +kernel)) (by decide +kernel)
theorem kw_212 : (.instanceMethod ⟨"TileBins", "makeRoom", "()V"⟩ : Cond) ∈ gb := gb_of (List.mem_of_getElem? (i := 212) (by decide +kernel)) (by decide +kernel)
theorem kw_213 : (.code ⟨"TileBins", "makeRoom", "()V"⟩ prog_1_method_13_code 1 (Option.none : Option ClassFile.FieldType) : Cond) ∈ gb := gb_of (List.mem_of_getElem? (i := 213) (by decide +kernel)) (by decide +kernel)
theorem kw_214 : (.methodLink "TileBins" 130 ⟨"java/util/Arrays", "copyOf", "([II)[I"⟩ : Cond) ∈ gb := gb_of (List.mem_of_getElem? (i := 214) (by decide +kernel)) (by decide +kernel)
theorem kw_215 : (.static ⟨"java/util/Arrays", "copyOf", "([II)[I"⟩ : Cond) ∈ gb := gb_of (List.mem_of_getElem? (i := 215) (by decide +kernel)) (by decide +kernel)
theorem kw_216 : (.code ⟨"java/util/Arrays", "copyOf", "([II)[I"⟩ prog_14_method_123_code 3 (Option.some (.array .int)) : Cond) ∈ gb := gb_of (List.mem_of_getElem? (i := 216) (by decide +kernel)) (by decide +kernel)
theorem kw_217 : (.methodLink "java/util/Arrays" 316 ⟨"[I", "clone", "()Ljava/lang/Object;"⟩ : Cond) ∈ gb := gb_of (List.mem_of_getElem? (i := 217) (by decide +kernel)) (by decide +kernel)
theorem kw_218 : (.sameMethod "[I" "java/lang/Object" "clone" "()Ljava/lang/Object;" : Cond) ∈ gb := gb_of (List.mem_of_getElem? (i := 218) (by decide +kernel)) (by decide +kernel)
theorem kw_219 : (.native ⟨"java/lang/Object", "clone", "()Ljava/lang/Object;"⟩ : Cond) ∈ gb := gb_of (List.mem_of_getElem? (i := 219) (by decide +kernel)) (by decide +kernel)
theorem kw_220 : (.instanceMethod ⟨"java/lang/Object", "clone", "()Ljava/lang/Object;"⟩ : Cond) ∈ gb := gb_of (List.mem_of_getElem? (i := 220) (by decide +kernel)) (by decide +kernel)
theorem kw_221 : (.selects "[I" ⟨"[I", "clone", "()Ljava/lang/Object;"⟩ ⟨"java/lang/Object", "clone", "()Ljava/lang/Object;"⟩ : Cond) ∈ gb := gb_of (List.mem_of_getElem? (i := 221) (by decide +kernel)) (by decide +kernel)
theorem kw_223 : (.classLink "java/util/Arrays" 317 "[I" : Cond) ∈ gb := gb_of (List.mem_of_getElem? (i := 223) (by decide +kernel)) (by decide +kernel)
theorem kw_224 : (.methodLink "java/util/Arrays" 304 ⟨"java/lang/Math", "min", "(II)I"⟩ : Cond) ∈ gb := gb_of (List.mem_of_getElem? (i := 224) (by decide +kernel)) (by decide +kernel)
theorem kw_225 : (.methodLink "java/util/Arrays" 150 ⟨"java/lang/System", "arraycopy", "(Ljava/lang/Object;ILjava/lang/Object;II)V"⟩ : Cond) ∈ gb := gb_of (List.mem_of_getElem? (i := 225) (by decide +kernel)) (by decide +kernel)
theorem kw_226 : (.static ⟨"java/lang/System", "arraycopy", "(Ljava/lang/Object;ILjava/lang/Object;II)V"⟩ : Cond) ∈ gb := gb_of (List.mem_of_getElem? (i := 226) (by decide +kernel)) (by decide +kernel)
theorem kw_227 : (.native ⟨"java/lang/System", "arraycopy", "(Ljava/lang/Object;ILjava/lang/Object;II)V"⟩ : Cond) ∈ gb := gb_of (List.mem_of_getElem? (i := 227) (by decide +kernel)) (by decide +kernel)
theorem kw_228 : (.methodLink "TileBinsLaw" 65 ⟨"TileBinsLaw", "open", "(LTileBins;I[J)I"⟩ : Cond) ∈ gb := gb_of (List.mem_of_getElem? (i := 228) (by decide +kernel)) (by decide +kernel)
theorem kw_229 : (.static ⟨"TileBinsLaw", "open", "(LTileBins;I[J)I"⟩ : Cond) ∈ gb := gb_of (List.mem_of_getElem? (i := 229) (by decide +kernel)) (by decide +kernel)
theorem kw_230 : (.codeWith ⟨"TileBinsLaw", "open", "(LTileBins;I[J)I"⟩ method_5_code 4 (Option.some .int) [(0, 9, 12, 13)] : Cond) ∈ gb := gb_of (List.mem_of_getElem? (i := 230) (by decide +kernel)) (by decide +kernel)
theorem kw_231 : (.methodLink "TileBinsLaw" 21 ⟨"TileBins", "open", "(I)I"⟩ : Cond) ∈ gb := gb_of (List.mem_of_getElem? (i := 231) (by decide +kernel)) (by decide +kernel)
theorem kw_232 : (.instanceMethod ⟨"TileBins", "open", "(I)I"⟩ : Cond) ∈ gb := gb_of (List.mem_of_getElem? (i := 232) (by decide +kernel)) (by decide +kernel)
theorem kw_233 : (.selects "TileBins" ⟨"TileBins", "open", "(I)I"⟩ ⟨"TileBins", "open", "(I)I"⟩ : Cond) ∈ gb := gb_of (List.mem_of_getElem? (i := 233) (by decide +kernel)) (by decide +kernel)
theorem kw_234 : (.code ⟨"TileBins", "open", "(I)I"⟩ prog_1_method_5_code 2 (Option.some .int) : Cond) ∈ gb := gb_of (List.mem_of_getElem? (i := 234) (by decide +kernel)) (by decide +kernel)
theorem kw_235 : (.methodLink "TileBins" 79 ⟨"TileBins", "isTile", "(I)Z"⟩ : Cond) ∈ gb := gb_of (List.mem_of_getElem? (i := 235) (by decide +kernel)) (by decide +kernel)
theorem kw_237 : (.instanceMethod ⟨"TileBins", "isTile", "(I)Z"⟩ : Cond) ∈ gb := gb_of (List.mem_of_getElem? (i := 237) (by decide +kernel)) (by decide +kernel)
theorem kw_238 : (.code ⟨"TileBins", "isTile", "(I)Z"⟩ prog_1_method_16_code 2 (Option.some .boolean) : Cond) ∈ gb := gb_of (List.mem_of_getElem? (i := 238) (by decide +kernel)) (by decide +kernel)
theorem kw_240 : (.methodLink "TileBins" 91 ⟨"TileBins", "itemsTouching", "(I)I"⟩ : Cond) ∈ gb := gb_of (List.mem_of_getElem? (i := 240) (by decide +kernel)) (by decide +kernel)
theorem kw_242 : (.instanceMethod ⟨"TileBins", "itemsTouching", "(I)I"⟩ : Cond) ∈ gb := gb_of (List.mem_of_getElem? (i := 242) (by decide +kernel)) (by decide +kernel)
theorem kw_243 : (.code ⟨"TileBins", "itemsTouching", "(I)I"⟩ prog_1_method_20_code 6 (Option.some .int) : Cond) ∈ gb := gb_of (List.mem_of_getElem? (i := 243) (by decide +kernel)) (by decide +kernel)
theorem kw_244 : (.methodLink "TileBins" 106 ⟨"TileBins", "leftOf", "(I)I"⟩ : Cond) ∈ gb := gb_of (List.mem_of_getElem? (i := 244) (by decide +kernel)) (by decide +kernel)
theorem kw_246 : (.instanceMethod ⟨"TileBins", "leftOf", "(I)I"⟩ : Cond) ∈ gb := gb_of (List.mem_of_getElem? (i := 246) (by decide +kernel)) (by decide +kernel)
theorem kw_247 : (.code ⟨"TileBins", "leftOf", "(I)I"⟩ prog_1_method_18_code 2 (Option.some .int) : Cond) ∈ gb := gb_of (List.mem_of_getElem? (i := 247) (by decide +kernel)) (by decide +kernel)
theorem kw_248 : (.methodLink "TileBins" 109 ⟨"TileBins", "topOf", "(I)I"⟩ : Cond) ∈ gb := gb_of (List.mem_of_getElem? (i := 248) (by decide +kernel)) (by decide +kernel)
theorem kw_250 : (.instanceMethod ⟨"TileBins", "topOf", "(I)I"⟩ : Cond) ∈ gb := gb_of (List.mem_of_getElem? (i := 250) (by decide +kernel)) (by decide +kernel)
theorem kw_251 : (.code ⟨"TileBins", "topOf", "(I)I"⟩ prog_1_method_19_code 2 (Option.some .int) : Cond) ∈ gb := gb_of (List.mem_of_getElem? (i := 251) (by decide +kernel)) (by decide +kernel)
theorem kw_252 : (.methodLink "TileBins" 136 ⟨"TileBins", "touches", "(III)Z"⟩ : Cond) ∈ gb := gb_of (List.mem_of_getElem? (i := 252) (by decide +kernel)) (by decide +kernel)
theorem kw_254 : (.instanceMethod ⟨"TileBins", "touches", "(III)Z"⟩ : Cond) ∈ gb := gb_of (List.mem_of_getElem? (i := 254) (by decide +kernel)) (by decide +kernel)
theorem kw_255 : (.code ⟨"TileBins", "touches", "(III)Z"⟩ prog_1_method_22_code 5 (Option.some .boolean) : Cond) ∈ gb := gb_of (List.mem_of_getElem? (i := 255) (by decide +kernel)) (by decide +kernel)
theorem kw_256 : (.methodLink "TileBins" 112 ⟨"TileBins", "sideLength", "()I"⟩ : Cond) ∈ gb := gb_of (List.mem_of_getElem? (i := 256) (by decide +kernel)) (by decide +kernel)
theorem kw_258 : (.instanceMethod ⟨"TileBins", "sideLength", "()I"⟩ : Cond) ∈ gb := gb_of (List.mem_of_getElem? (i := 258) (by decide +kernel)) (by decide +kernel)
theorem kw_259 : (.code ⟨"TileBins", "sideLength", "()I"⟩ prog_1_method_17_code 1 (Option.some .int) : Cond) ∈ gb := gb_of (List.mem_of_getElem? (i := 259) (by decide +kernel)) (by decide +kernel)
theorem kw_260 : (.methodLink "TileBinsLaw" 69 ⟨"TileBinsLaw", "next", "(LTileBins;[J)I"⟩ : Cond) ∈ gb := gb_of (List.mem_of_getElem? (i := 260) (by decide +kernel)) (by decide +kernel)
theorem kw_261 : (.static ⟨"TileBinsLaw", "next", "(LTileBins;[J)I"⟩ : Cond) ∈ gb := gb_of (List.mem_of_getElem? (i := 261) (by decide +kernel)) (by decide +kernel)
theorem kw_262 : (.codeWith ⟨"TileBinsLaw", "next", "(LTileBins;[J)I"⟩ method_6_code 3 (Option.some .int) [(0, 8, 11, 19)] : Cond) ∈ gb := gb_of (List.mem_of_getElem? (i := 262) (by decide +kernel)) (by decide +kernel)
theorem kw_263 : (.methodLink "TileBinsLaw" 25 ⟨"TileBins", "next", "()I"⟩ : Cond) ∈ gb := gb_of (List.mem_of_getElem? (i := 263) (by decide +kernel)) (by decide +kernel)
theorem kw_264 : (.instanceMethod ⟨"TileBins", "next", "()I"⟩ : Cond) ∈ gb := gb_of (List.mem_of_getElem? (i := 264) (by decide +kernel)) (by decide +kernel)
theorem kw_265 : (.selects "TileBins" ⟨"TileBins", "next", "()I"⟩ ⟨"TileBins", "next", "()I"⟩ : Cond) ∈ gb := gb_of (List.mem_of_getElem? (i := 265) (by decide +kernel)) (by decide +kernel)
theorem kw_266 : (.code ⟨"TileBins", "next", "()I"⟩ prog_1_method_6_code 2 (Option.some .int) : Cond) ∈ gb := gb_of (List.mem_of_getElem? (i := 266) (by decide +kernel)) (by decide +kernel)
theorem kw_268 : (.methodLink "TileBins" 96 ⟨"TileBins", "firstTouching", "(II)I"⟩ : Cond) ∈ gb := gb_of (List.mem_of_getElem? (i := 268) (by decide +kernel)) (by decide +kernel)
theorem kw_270 : (.instanceMethod ⟨"TileBins", "firstTouching", "(II)I"⟩ : Cond) ∈ gb := gb_of (List.mem_of_getElem? (i := 270) (by decide +kernel)) (by decide +kernel)
theorem kw_271 : (.code ⟨"TileBins", "firstTouching", "(II)I"⟩ prog_1_method_21_code 6 (Option.some .int) : Cond) ∈ gb := gb_of (List.mem_of_getElem? (i := 271) (by decide +kernel)) (by decide +kernel)
theorem kw_272 : (.methodLink "TileBinsLaw" 73 ⟨"TileBinsLaw", "item", "(LTileBins;II[J)I"⟩ : Cond) ∈ gb := gb_of (List.mem_of_getElem? (i := 272) (by decide +kernel)) (by decide +kernel)
theorem kw_273 : (.static ⟨"TileBinsLaw", "item", "(LTileBins;II[J)I"⟩ : Cond) ∈ gb := gb_of (List.mem_of_getElem? (i := 273) (by decide +kernel)) (by decide +kernel)
theorem kw_274 : (.codeWith ⟨"TileBinsLaw", "item", "(LTileBins;II[J)I"⟩ method_7_code 5 (Option.some .int) [(0, 10, 13, 33), (0, 10, 17, 13)] : Cond) ∈ gb := gb_of (List.mem_of_getElem? (i := 274) (by decide +kernel)) (by decide +kernel)
theorem kw_275 : (.classLink "TileBinsLaw" 33 "java/lang/IndexOutOfBoundsException" : Cond) ∈ gb := gb_of (List.mem_of_getElem? (i := 275) (by decide +kernel)) (by decide +kernel)
theorem kw_276 : (.methodLink "TileBinsLaw" 29 ⟨"TileBins", "item", "(II)I"⟩ : Cond) ∈ gb := gb_of (List.mem_of_getElem? (i := 276) (by decide +kernel)) (by decide +kernel)
theorem kw_277 : (.instanceMethod ⟨"TileBins", "item", "(II)I"⟩ : Cond) ∈ gb := gb_of (List.mem_of_getElem? (i := 277) (by decide +kernel)) (by decide +kernel)
theorem kw_278 : (.selects "TileBins" ⟨"TileBins", "item", "(II)I"⟩ ⟨"TileBins", "item", "(II)I"⟩ : Cond) ∈ gb := gb_of (List.mem_of_getElem? (i := 278) (by decide +kernel)) (by decide +kernel)
theorem kw_279 : (.code ⟨"TileBins", "item", "(II)I"⟩ prog_1_method_7_code 3 (Option.some .int) : Cond) ∈ gb := gb_of (List.mem_of_getElem? (i := 279) (by decide +kernel)) (by decide +kernel)
theorem kw_280 : (.classLink "TileBins" 99 "java/lang/IndexOutOfBoundsException" : Cond) ∈ gb := gb_of (List.mem_of_getElem? (i := 280) (by decide +kernel)) (by decide +kernel)
theorem kw_281 : (.instantiable "java/lang/IndexOutOfBoundsException" 6 : Cond) ∈ gb := gb_of (List.mem_of_getElem? (i := 281) (by decide +kernel)) (by decide +kernel)
theorem kw_283 : (.selects "java/lang/IndexOutOfBoundsException" ⟨"java/lang/Throwable", "fillInStackTrace", "(I)Ljava/lang/Throwable;"⟩ ⟨"java/lang/Throwable", "fillInStackTrace", "(I)Ljava/lang/Throwable;"⟩ : Cond) ∈ gb := gb_of (List.mem_of_getElem? (i := 283) (by decide +kernel)) (by decide +kernel)
theorem kw_290 : (.methodLink "TileBins" 103 ⟨"java/lang/IndexOutOfBoundsException", "<init>", "(Ljava/lang/String;)V"⟩ : Cond) ∈ gb := gb_of (List.mem_of_getElem? (i := 290) (by decide +kernel)) (by decide +kernel)
theorem kw_291 : (.instanceMethod ⟨"java/lang/IndexOutOfBoundsException", "<init>", "(Ljava/lang/String;)V"⟩ : Cond) ∈ gb := gb_of (List.mem_of_getElem? (i := 291) (by decide +kernel)) (by decide +kernel)
theorem kw_292 : (.code ⟨"java/lang/IndexOutOfBoundsException", "<init>", "(Ljava/lang/String;)V"⟩ prog_8_method_2_code 2 (Option.none : Option ClassFile.FieldType) : Cond) ∈ gb := gb_of (List.mem_of_getElem? (i := 292) (by decide +kernel)) (by decide +kernel)
theorem kw_293 : (.methodLink "java/lang/IndexOutOfBoundsException" 7 ⟨"java/lang/RuntimeException", "<init>", "(Ljava/lang/String;)V"⟩ : Cond) ∈ gb := gb_of (List.mem_of_getElem? (i := 293) (by decide +kernel)) (by decide +kernel)
theorem kw_297 : (.methodLink "TileBinsLaw" 77 ⟨"TileBinsLaw", "tile", "(LTileBins;II[J)I"⟩ : Cond) ∈ gb := gb_of (List.mem_of_getElem? (i := 297) (by decide +kernel)) (by decide +kernel)
theorem kw_298 : (.static ⟨"TileBinsLaw", "tile", "(LTileBins;II[J)I"⟩ : Cond) ∈ gb := gb_of (List.mem_of_getElem? (i := 298) (by decide +kernel)) (by decide +kernel)
theorem kw_299 : (.codeWith ⟨"TileBinsLaw", "tile", "(LTileBins;II[J)I"⟩ method_8_code 5 (Option.some .int) [(0, 10, 13, 13)] : Cond) ∈ gb := gb_of (List.mem_of_getElem? (i := 299) (by decide +kernel)) (by decide +kernel)
theorem kw_300 : (.methodLink "TileBinsLaw" 35 ⟨"TileBins", "tile", "(II)I"⟩ : Cond) ∈ gb := gb_of (List.mem_of_getElem? (i := 300) (by decide +kernel)) (by decide +kernel)
theorem kw_301 : (.instanceMethod ⟨"TileBins", "tile", "(II)I"⟩ : Cond) ∈ gb := gb_of (List.mem_of_getElem? (i := 301) (by decide +kernel)) (by decide +kernel)
theorem kw_302 : (.selects "TileBins" ⟨"TileBins", "tile", "(II)I"⟩ ⟨"TileBins", "tile", "(II)I"⟩ : Cond) ∈ gb := gb_of (List.mem_of_getElem? (i := 302) (by decide +kernel)) (by decide +kernel)
theorem kw_303 : (.code ⟨"TileBins", "tile", "(II)I"⟩ prog_1_method_8_code 3 (Option.some .int) : Cond) ∈ gb := gb_of (List.mem_of_getElem? (i := 303) (by decide +kernel)) (by decide +kernel)
theorem kw_305 : (.methodLink "TileBinsLaw" 80 ⟨"TileBinsLaw", "tileOf", "(LTileBins;II[J)I"⟩ : Cond) ∈ gb := gb_of (List.mem_of_getElem? (i := 305) (by decide +kernel)) (by decide +kernel)
theorem kw_306 : (.static ⟨"TileBinsLaw", "tileOf", "(LTileBins;II[J)I"⟩ : Cond) ∈ gb := gb_of (List.mem_of_getElem? (i := 306) (by decide +kernel)) (by decide +kernel)
theorem kw_307 : (.codeWith ⟨"TileBinsLaw", "tileOf", "(LTileBins;II[J)I"⟩ method_9_code 5 (Option.some .int) [(0, 10, 13, 13)] : Cond) ∈ gb := gb_of (List.mem_of_getElem? (i := 307) (by decide +kernel)) (by decide +kernel)
theorem kw_308 : (.methodLink "TileBinsLaw" 38 ⟨"TileBins", "tileOf", "(II)I"⟩ : Cond) ∈ gb := gb_of (List.mem_of_getElem? (i := 308) (by decide +kernel)) (by decide +kernel)
theorem kw_309 : (.instanceMethod ⟨"TileBins", "tileOf", "(II)I"⟩ : Cond) ∈ gb := gb_of (List.mem_of_getElem? (i := 309) (by decide +kernel)) (by decide +kernel)
theorem kw_310 : (.selects "TileBins" ⟨"TileBins", "tileOf", "(II)I"⟩ ⟨"TileBins", "tileOf", "(II)I"⟩ : Cond) ∈ gb := gb_of (List.mem_of_getElem? (i := 310) (by decide +kernel)) (by decide +kernel)
theorem kw_311 : (.code ⟨"TileBins", "tileOf", "(II)I"⟩ prog_1_method_9_code 3 (Option.some .int) : Cond) ∈ gb := gb_of (List.mem_of_getElem? (i := 311) (by decide +kernel)) (by decide +kernel)
theorem kw_313 : (.methodLink "TileBinsLaw" 83 ⟨"TileBinsLaw", "count", "(LTileBins;I[J)I"⟩ : Cond) ∈ gb := gb_of (List.mem_of_getElem? (i := 313) (by decide +kernel)) (by decide +kernel)
theorem kw_314 : (.static ⟨"TileBinsLaw", "count", "(LTileBins;I[J)I"⟩ : Cond) ∈ gb := gb_of (List.mem_of_getElem? (i := 314) (by decide +kernel)) (by decide +kernel)
theorem kw_315 : (.codeWith ⟨"TileBinsLaw", "count", "(LTileBins;I[J)I"⟩ method_10_code 4 (Option.some .int) [(0, 9, 12, 13)] : Cond) ∈ gb := gb_of (List.mem_of_getElem? (i := 315) (by decide +kernel)) (by decide +kernel)
theorem kw_316 : (.methodLink "TileBinsLaw" 41 ⟨"TileBins", "count", "(I)I"⟩ : Cond) ∈ gb := gb_of (List.mem_of_getElem? (i := 316) (by decide +kernel)) (by decide +kernel)
theorem kw_317 : (.instanceMethod ⟨"TileBins", "count", "(I)I"⟩ : Cond) ∈ gb := gb_of (List.mem_of_getElem? (i := 317) (by decide +kernel)) (by decide +kernel)
theorem kw_318 : (.selects "TileBins" ⟨"TileBins", "count", "(I)I"⟩ ⟨"TileBins", "count", "(I)I"⟩ : Cond) ∈ gb := gb_of (List.mem_of_getElem? (i := 318) (by decide +kernel)) (by decide +kernel)
theorem kw_319 : (.code ⟨"TileBins", "count", "(I)I"⟩ prog_1_method_10_code 2 (Option.some .int) : Cond) ∈ gb := gb_of (List.mem_of_getElem? (i := 319) (by decide +kernel)) (by decide +kernel)
theorem kw_321 : (.classLink "TileBinsLaw" 45 "TileBinsModel" : Cond) ∈ gb := gb_of (List.mem_of_getElem? (i := 321) (by decide +kernel)) (by decide +kernel)
theorem kw_322 : (.instantiable "TileBinsModel" 14 : Cond) ∈ gb := gb_of (List.mem_of_getElem? (i := 322) (by decide +kernel)) (by decide +kernel)
theorem kw_323 : (.methodLink "TileBinsLaw" 47 ⟨"TileBinsModel", "<init>", "()V"⟩ : Cond) ∈ gb := gb_of (List.mem_of_getElem? (i := 323) (by decide +kernel)) (by decide +kernel)
theorem kw_324 : (.instanceMethod ⟨"TileBinsModel", "<init>", "()V"⟩ : Cond) ∈ gb := gb_of (List.mem_of_getElem? (i := 324) (by decide +kernel)) (by decide +kernel)
theorem kw_325 : (.code ⟨"TileBinsModel", "<init>", "()V"⟩ prog_3_method_1_code 1 (Option.none : Option ClassFile.FieldType) : Cond) ∈ gb := gb_of (List.mem_of_getElem? (i := 325) (by decide +kernel)) (by decide +kernel)
theorem kw_326 : (.methodLink "TileBinsModel" 1 ⟨"java/lang/Object", "<init>", "()V"⟩ : Cond) ∈ gb := gb_of (List.mem_of_getElem? (i := 326) (by decide +kernel)) (by decide +kernel)
theorem kw_327 : (.fieldLink "TileBinsModel" 41 "TileBinsModel" "thrown" "I" : Cond) ∈ gb := gb_of (List.mem_of_getElem? (i := 327) (by decide +kernel)) (by decide +kernel)
theorem kw_328 : (.fieldLink "TileBinsModel" 7 "TileBinsModel" "wide" "I" : Cond) ∈ gb := gb_of (List.mem_of_getElem? (i := 328) (by decide +kernel)) (by decide +kernel)
theorem kw_329 : (.fieldLink "TileBinsModel" 13 "TileBinsModel" "high" "I" : Cond) ∈ gb := gb_of (List.mem_of_getElem? (i := 329) (by decide +kernel)) (by decide +kernel)
theorem kw_330 : (.fieldLink "TileBinsModel" 16 "TileBinsModel" "side" "I" : Cond) ∈ gb := gb_of (List.mem_of_getElem? (i := 330) (by decide +kernel)) (by decide +kernel)
theorem kw_331 : (.fieldLink "TileBinsModel" 19 "TileBinsModel" "cells" "I" : Cond) ∈ gb := gb_of (List.mem_of_getElem? (i := 331) (by decide +kernel)) (by decide +kernel)
theorem kw_332 : (.fieldLink "TileBinsModel" 59 "TileBinsModel" "items" "I" : Cond) ∈ gb := gb_of (List.mem_of_getElem? (i := 332) (by decide +kernel)) (by decide +kernel)
theorem kw_333 : (.fieldLink "TileBinsModel" 62 "TileBinsModel" "taken" "I" : Cond) ∈ gb := gb_of (List.mem_of_getElem? (i := 333) (by decide +kernel)) (by decide +kernel)
theorem kw_334 : (.fieldLink "TileBinsModel" 22 "TileBinsModel" "left" "[I" : Cond) ∈ gb := gb_of (List.mem_of_getElem? (i := 334) (by decide +kernel)) (by decide +kernel)
theorem kw_335 : (.fieldLink "TileBinsModel" 26 "TileBinsModel" "top" "[I" : Cond) ∈ gb := gb_of (List.mem_of_getElem? (i := 335) (by decide +kernel)) (by decide +kernel)
theorem kw_336 : (.fieldLink "TileBinsModel" 29 "TileBinsModel" "right" "[I" : Cond) ∈ gb := gb_of (List.mem_of_getElem? (i := 336) (by decide +kernel)) (by decide +kernel)
theorem kw_337 : (.fieldLink "TileBinsModel" 32 "TileBinsModel" "bottom" "[I" : Cond) ∈ gb := gb_of (List.mem_of_getElem? (i := 337) (by decide +kernel)) (by decide +kernel)
theorem kw_338 : (.fieldLink "TileBinsModel" 35 "TileBinsModel" "tag" "[I" : Cond) ∈ gb := gb_of (List.mem_of_getElem? (i := 338) (by decide +kernel)) (by decide +kernel)
theorem kw_339 : (.fieldLink "TileBinsModel" 38 "TileBinsModel" "opened" "I" : Cond) ∈ gb := gb_of (List.mem_of_getElem? (i := 339) (by decide +kernel)) (by decide +kernel)
theorem kw_340 : (.fieldLink "TileBinsModel" 91 "TileBinsModel" "after" "I" : Cond) ∈ gb := gb_of (List.mem_of_getElem? (i := 340) (by decide +kernel)) (by decide +kernel)
theorem kw_370 : (.methodLink "TileBinsLaw" 54 ⟨"TileBinsModel", "thrown", "()I"⟩ : Cond) ∈ gb := gb_of (List.mem_of_getElem? (i := 370) (by decide +kernel)) (by decide +kernel)
theorem kw_371 : (.instanceMethod ⟨"TileBinsModel", "thrown", "()I"⟩ : Cond) ∈ gb := gb_of (List.mem_of_getElem? (i := 371) (by decide +kernel)) (by decide +kernel)
theorem kw_372 : (.selects "TileBinsModel" ⟨"TileBinsModel", "thrown", "()I"⟩ ⟨"TileBinsModel", "thrown", "()I"⟩ : Cond) ∈ gb := gb_of (List.mem_of_getElem? (i := 372) (by decide +kernel)) (by decide +kernel)
theorem kw_373 : (.code ⟨"TileBinsModel", "thrown", "()I"⟩ prog_3_method_2_code 1 (Option.some .int) : Cond) ∈ gb := gb_of (List.mem_of_getElem? (i := 373) (by decide +kernel)) (by decide +kernel)
theorem kw_374 : (.methodLink "TileBinsLaw" 53 ⟨"TileBinsModel", "field", "(IIII)I"⟩ : Cond) ∈ gb := gb_of (List.mem_of_getElem? (i := 374) (by decide +kernel)) (by decide +kernel)
theorem kw_375 : (.instanceMethod ⟨"TileBinsModel", "field", "(IIII)I"⟩ : Cond) ∈ gb := gb_of (List.mem_of_getElem? (i := 375) (by decide +kernel)) (by decide +kernel)
theorem kw_376 : (.selects "TileBinsModel" ⟨"TileBinsModel", "field", "(IIII)I"⟩ ⟨"TileBinsModel", "field", "(IIII)I"⟩ : Cond) ∈ gb := gb_of (List.mem_of_getElem? (i := 376) (by decide +kernel)) (by decide +kernel)
theorem kw_377 : (.code ⟨"TileBinsModel", "field", "(IIII)I"⟩ prog_3_method_8_code 6 (Option.some .int) : Cond) ∈ gb := gb_of (List.mem_of_getElem? (i := 377) (by decide +kernel)) (by decide +kernel)
theorem kw_378 : (.methodLink "TileBinsModel" 51 ⟨"TileBinsModel", "in", "(III)Z"⟩ : Cond) ∈ gb := gb_of (List.mem_of_getElem? (i := 378) (by decide +kernel)) (by decide +kernel)
theorem kw_379 : (.static ⟨"TileBinsModel", "in", "(III)Z"⟩ : Cond) ∈ gb := gb_of (List.mem_of_getElem? (i := 379) (by decide +kernel)) (by decide +kernel)
theorem kw_380 : (.code ⟨"TileBinsModel", "in", "(III)Z"⟩ prog_3_method_4_code 3 (Option.some .boolean) : Cond) ∈ gb := gb_of (List.mem_of_getElem? (i := 380) (by decide +kernel)) (by decide +kernel)
theorem kw_381 : (.methodLink "TileBinsModel" 55 ⟨"TileBinsModel", "refuse", "(ZZ)Z"⟩ : Cond) ∈ gb := gb_of (List.mem_of_getElem? (i := 381) (by decide +kernel)) (by decide +kernel)
theorem kw_383 : (.instanceMethod ⟨"TileBinsModel", "refuse", "(ZZ)Z"⟩ : Cond) ∈ gb := gb_of (List.mem_of_getElem? (i := 383) (by decide +kernel)) (by decide +kernel)
theorem kw_384 : (.code ⟨"TileBinsModel", "refuse", "(ZZ)Z"⟩ prog_3_method_3_code 3 (Option.some .boolean) : Cond) ∈ gb := gb_of (List.mem_of_getElem? (i := 384) (by decide +kernel)) (by decide +kernel)
theorem kw_385 : (.methodLink "TileBinsModel" 48 ⟨"TileBinsModel", "tiles", "()I"⟩ : Cond) ∈ gb := gb_of (List.mem_of_getElem? (i := 385) (by decide +kernel)) (by decide +kernel)
theorem kw_387 : (.instanceMethod ⟨"TileBinsModel", "tiles", "()I"⟩ : Cond) ∈ gb := gb_of (List.mem_of_getElem? (i := 387) (by decide +kernel)) (by decide +kernel)
theorem kw_388 : (.code ⟨"TileBinsModel", "tiles", "()I"⟩ prog_3_method_6_code 1 (Option.some .int) : Cond) ∈ gb := gb_of (List.mem_of_getElem? (i := 388) (by decide +kernel)) (by decide +kernel)
theorem kw_389 : (.methodLink "TileBinsModel" 44 ⟨"TileBinsModel", "across", "()I"⟩ : Cond) ∈ gb := gb_of (List.mem_of_getElem? (i := 389) (by decide +kernel)) (by decide +kernel)
theorem kw_391 : (.instanceMethod ⟨"TileBinsModel", "across", "()I"⟩ : Cond) ∈ gb := gb_of (List.mem_of_getElem? (i := 391) (by decide +kernel)) (by decide +kernel)
theorem kw_392 : (.code ⟨"TileBinsModel", "across", "()I"⟩ prog_3_method_5_code 1 (Option.some .int) : Cond) ∈ gb := gb_of (List.mem_of_getElem? (i := 392) (by decide +kernel)) (by decide +kernel)
theorem kw_393 : (.methodLink "TileBinsLaw" 60 ⟨"TileBinsModel", "put", "(IIIII)I"⟩ : Cond) ∈ gb := gb_of (List.mem_of_getElem? (i := 393) (by decide +kernel)) (by decide +kernel)
theorem kw_394 : (.instanceMethod ⟨"TileBinsModel", "put", "(IIIII)I"⟩ : Cond) ∈ gb := gb_of (List.mem_of_getElem? (i := 394) (by decide +kernel)) (by decide +kernel)
theorem kw_395 : (.selects "TileBinsModel" ⟨"TileBinsModel", "put", "(IIIII)I"⟩ ⟨"TileBinsModel", "put", "(IIIII)I"⟩ : Cond) ∈ gb := gb_of (List.mem_of_getElem? (i := 395) (by decide +kernel)) (by decide +kernel)
theorem kw_396 : (.code ⟨"TileBinsModel", "put", "(IIIII)I"⟩ prog_3_method_15_code 8 (Option.some .int) : Cond) ∈ gb := gb_of (List.mem_of_getElem? (i := 396) (by decide +kernel)) (by decide +kernel)
theorem kw_397 : (.methodLink "TileBinsModel" 72 ⟨"TileBinsModel", "greatest", "(II)I"⟩ : Cond) ∈ gb := gb_of (List.mem_of_getElem? (i := 397) (by decide +kernel)) (by decide +kernel)
theorem kw_398 : (.static ⟨"TileBinsModel", "greatest", "(II)I"⟩ : Cond) ∈ gb := gb_of (List.mem_of_getElem? (i := 398) (by decide +kernel)) (by decide +kernel)
theorem kw_399 : (.code ⟨"TileBinsModel", "greatest", "(II)I"⟩ prog_3_method_10_code 2 (Option.some .int) : Cond) ∈ gb := gb_of (List.mem_of_getElem? (i := 399) (by decide +kernel)) (by decide +kernel)
theorem kw_400 : (.methodLink "TileBinsModel" 65 ⟨"TileBinsModel", "least", "(II)I"⟩ : Cond) ∈ gb := gb_of (List.mem_of_getElem? (i := 400) (by decide +kernel)) (by decide +kernel)
theorem kw_401 : (.static ⟨"TileBinsModel", "least", "(II)I"⟩ : Cond) ∈ gb := gb_of (List.mem_of_getElem? (i := 401) (by decide +kernel)) (by decide +kernel)
theorem kw_402 : (.code ⟨"TileBinsModel", "least", "(II)I"⟩ prog_3_method_9_code 2 (Option.some .int) : Cond) ∈ gb := gb_of (List.mem_of_getElem? (i := 402) (by decide +kernel)) (by decide +kernel)
theorem kw_403 : (.methodLink "TileBinsModel" 75 ⟨"TileBinsModel", "isEmpty", "(IIII)Z"⟩ : Cond) ∈ gb := gb_of (List.mem_of_getElem? (i := 403) (by decide +kernel)) (by decide +kernel)
theorem kw_404 : (.static ⟨"TileBinsModel", "isEmpty", "(IIII)Z"⟩ : Cond) ∈ gb := gb_of (List.mem_of_getElem? (i := 404) (by decide +kernel)) (by decide +kernel)
theorem kw_405 : (.code ⟨"TileBinsModel", "isEmpty", "(IIII)Z"⟩ prog_3_method_12_code 4 (Option.some .boolean) : Cond) ∈ gb := gb_of (List.mem_of_getElem? (i := 405) (by decide +kernel)) (by decide +kernel)
theorem kw_406 : (.methodLink "TileBinsModel" 83 ⟨"TileBinsModel", "tilesOf", "(I)I"⟩ : Cond) ∈ gb := gb_of (List.mem_of_getElem? (i := 406) (by decide +kernel)) (by decide +kernel)
theorem kw_408 : (.instanceMethod ⟨"TileBinsModel", "tilesOf", "(I)I"⟩ : Cond) ∈ gb := gb_of (List.mem_of_getElem? (i := 408) (by decide +kernel)) (by decide +kernel)
theorem kw_409 : (.code ⟨"TileBinsModel", "tilesOf", "(I)I"⟩ prog_3_method_14_code 4 (Option.some .int) : Cond) ∈ gb := gb_of (List.mem_of_getElem? (i := 409) (by decide +kernel)) (by decide +kernel)
theorem kw_410 : (.methodLink "TileBinsModel" 79 ⟨"TileBinsModel", "touches", "(II)Z"⟩ : Cond) ∈ gb := gb_of (List.mem_of_getElem? (i := 410) (by decide +kernel)) (by decide +kernel)
theorem kw_412 : (.instanceMethod ⟨"TileBinsModel", "touches", "(II)Z"⟩ : Cond) ∈ gb := gb_of (List.mem_of_getElem? (i := 412) (by decide +kernel)) (by decide +kernel)
theorem kw_413 : (.code ⟨"TileBinsModel", "touches", "(II)Z"⟩ prog_3_method_13_code 3 (Option.some .boolean) : Cond) ∈ gb := gb_of (List.mem_of_getElem? (i := 413) (by decide +kernel)) (by decide +kernel)
theorem kw_414 : (.methodLink "TileBinsModel" 69 ⟨"TileBinsModel", "edge", "(II)I"⟩ : Cond) ∈ gb := gb_of (List.mem_of_getElem? (i := 414) (by decide +kernel)) (by decide +kernel)
theorem kw_416 : (.instanceMethod ⟨"TileBinsModel", "edge", "(II)I"⟩ : Cond) ∈ gb := gb_of (List.mem_of_getElem? (i := 416) (by decide +kernel)) (by decide +kernel)
theorem kw_417 : (.code ⟨"TileBinsModel", "edge", "(II)I"⟩ prog_3_method_11_code 5 (Option.some .int) : Cond) ∈ gb := gb_of (List.mem_of_getElem? (i := 417) (by decide +kernel)) (by decide +kernel)
theorem kw_418 : (.methodLink "TileBinsLaw" 64 ⟨"TileBinsModel", "empty", "()V"⟩ : Cond) ∈ gb := gb_of (List.mem_of_getElem? (i := 418) (by decide +kernel)) (by decide +kernel)
theorem kw_419 : (.instanceMethod ⟨"TileBinsModel", "empty", "()V"⟩ : Cond) ∈ gb := gb_of (List.mem_of_getElem? (i := 419) (by decide +kernel)) (by decide +kernel)
theorem kw_420 : (.selects "TileBinsModel" ⟨"TileBinsModel", "empty", "()V"⟩ ⟨"TileBinsModel", "empty", "()V"⟩ : Cond) ∈ gb := gb_of (List.mem_of_getElem? (i := 420) (by decide +kernel)) (by decide +kernel)
theorem kw_421 : (.code ⟨"TileBinsModel", "empty", "()V"⟩ prog_3_method_16_code 1 (Option.none : Option ClassFile.FieldType) : Cond) ∈ gb := gb_of (List.mem_of_getElem? (i := 421) (by decide +kernel)) (by decide +kernel)
theorem kw_422 : (.methodLink "TileBinsLaw" 68 ⟨"TileBinsModel", "open", "(I)I"⟩ : Cond) ∈ gb := gb_of (List.mem_of_getElem? (i := 422) (by decide +kernel)) (by decide +kernel)
theorem kw_423 : (.instanceMethod ⟨"TileBinsModel", "open", "(I)I"⟩ : Cond) ∈ gb := gb_of (List.mem_of_getElem? (i := 423) (by decide +kernel)) (by decide +kernel)
theorem kw_424 : (.selects "TileBinsModel" ⟨"TileBinsModel", "open", "(I)I"⟩ ⟨"TileBinsModel", "open", "(I)I"⟩ : Cond) ∈ gb := gb_of (List.mem_of_getElem? (i := 424) (by decide +kernel)) (by decide +kernel)
theorem kw_425 : (.code ⟨"TileBinsModel", "open", "(I)I"⟩ prog_3_method_18_code 2 (Option.some .int) : Cond) ∈ gb := gb_of (List.mem_of_getElem? (i := 425) (by decide +kernel)) (by decide +kernel)
theorem kw_426 : (.methodLink "TileBinsModel" 87 ⟨"TileBinsModel", "isTile", "(I)Z"⟩ : Cond) ∈ gb := gb_of (List.mem_of_getElem? (i := 426) (by decide +kernel)) (by decide +kernel)
theorem kw_428 : (.instanceMethod ⟨"TileBinsModel", "isTile", "(I)Z"⟩ : Cond) ∈ gb := gb_of (List.mem_of_getElem? (i := 428) (by decide +kernel)) (by decide +kernel)
theorem kw_429 : (.code ⟨"TileBinsModel", "isTile", "(I)Z"⟩ prog_3_method_7_code 2 (Option.some .boolean) : Cond) ∈ gb := gb_of (List.mem_of_getElem? (i := 429) (by decide +kernel)) (by decide +kernel)
theorem kw_430 : (.methodLink "TileBinsModel" 94 ⟨"TileBinsModel", "manyOf", "(I)I"⟩ : Cond) ∈ gb := gb_of (List.mem_of_getElem? (i := 430) (by decide +kernel)) (by decide +kernel)
theorem kw_432 : (.instanceMethod ⟨"TileBinsModel", "manyOf", "(I)I"⟩ : Cond) ∈ gb := gb_of (List.mem_of_getElem? (i := 432) (by decide +kernel)) (by decide +kernel)
theorem kw_433 : (.code ⟨"TileBinsModel", "manyOf", "(I)I"⟩ prog_3_method_17_code 4 (Option.some .int) : Cond) ∈ gb := gb_of (List.mem_of_getElem? (i := 433) (by decide +kernel)) (by decide +kernel)
theorem kw_434 : (.methodLink "TileBinsLaw" 72 ⟨"TileBinsModel", "next", "()I"⟩ : Cond) ∈ gb := gb_of (List.mem_of_getElem? (i := 434) (by decide +kernel)) (by decide +kernel)
theorem kw_435 : (.instanceMethod ⟨"TileBinsModel", "next", "()I"⟩ : Cond) ∈ gb := gb_of (List.mem_of_getElem? (i := 435) (by decide +kernel)) (by decide +kernel)
theorem kw_436 : (.selects "TileBinsModel" ⟨"TileBinsModel", "next", "()I"⟩ ⟨"TileBinsModel", "next", "()I"⟩ : Cond) ∈ gb := gb_of (List.mem_of_getElem? (i := 436) (by decide +kernel)) (by decide +kernel)
theorem kw_437 : (.code ⟨"TileBinsModel", "next", "()I"⟩ prog_3_method_19_code 1 (Option.some .int) : Cond) ∈ gb := gb_of (List.mem_of_getElem? (i := 437) (by decide +kernel)) (by decide +kernel)
theorem kw_438 : (.methodLink "TileBinsLaw" 76 ⟨"TileBinsModel", "item", "(II)I"⟩ : Cond) ∈ gb := gb_of (List.mem_of_getElem? (i := 438) (by decide +kernel)) (by decide +kernel)
theorem kw_439 : (.instanceMethod ⟨"TileBinsModel", "item", "(II)I"⟩ : Cond) ∈ gb := gb_of (List.mem_of_getElem? (i := 439) (by decide +kernel)) (by decide +kernel)
theorem kw_440 : (.selects "TileBinsModel" ⟨"TileBinsModel", "item", "(II)I"⟩ ⟨"TileBinsModel", "item", "(II)I"⟩ : Cond) ∈ gb := gb_of (List.mem_of_getElem? (i := 440) (by decide +kernel)) (by decide +kernel)
theorem kw_441 : (.code ⟨"TileBinsModel", "item", "(II)I"⟩ prog_3_method_20_code 3 (Option.some .int) : Cond) ∈ gb := gb_of (List.mem_of_getElem? (i := 441) (by decide +kernel)) (by decide +kernel)
theorem kw_442 : (.methodLink "TileBinsLaw" 79 ⟨"TileBinsModel", "tile", "(II)I"⟩ : Cond) ∈ gb := gb_of (List.mem_of_getElem? (i := 442) (by decide +kernel)) (by decide +kernel)
theorem kw_443 : (.instanceMethod ⟨"TileBinsModel", "tile", "(II)I"⟩ : Cond) ∈ gb := gb_of (List.mem_of_getElem? (i := 443) (by decide +kernel)) (by decide +kernel)
theorem kw_444 : (.selects "TileBinsModel" ⟨"TileBinsModel", "tile", "(II)I"⟩ ⟨"TileBinsModel", "tile", "(II)I"⟩ : Cond) ∈ gb := gb_of (List.mem_of_getElem? (i := 444) (by decide +kernel)) (by decide +kernel)
theorem kw_445 : (.code ⟨"TileBinsModel", "tile", "(II)I"⟩ prog_3_method_21_code 3 (Option.some .int) : Cond) ∈ gb := gb_of (List.mem_of_getElem? (i := 445) (by decide +kernel)) (by decide +kernel)
theorem kw_446 : (.methodLink "TileBinsLaw" 82 ⟨"TileBinsModel", "tileOf", "(II)I"⟩ : Cond) ∈ gb := gb_of (List.mem_of_getElem? (i := 446) (by decide +kernel)) (by decide +kernel)
theorem kw_447 : (.instanceMethod ⟨"TileBinsModel", "tileOf", "(II)I"⟩ : Cond) ∈ gb := gb_of (List.mem_of_getElem? (i := 447) (by decide +kernel)) (by decide +kernel)
theorem kw_448 : (.selects "TileBinsModel" ⟨"TileBinsModel", "tileOf", "(II)I"⟩ ⟨"TileBinsModel", "tileOf", "(II)I"⟩ : Cond) ∈ gb := gb_of (List.mem_of_getElem? (i := 448) (by decide +kernel)) (by decide +kernel)
theorem kw_449 : (.code ⟨"TileBinsModel", "tileOf", "(II)I"⟩ prog_3_method_22_code 4 (Option.some .int) : Cond) ∈ gb := gb_of (List.mem_of_getElem? (i := 449) (by decide +kernel)) (by decide +kernel)
theorem kw_450 : (.methodLink "TileBinsLaw" 85 ⟨"TileBinsModel", "count", "(I)I"⟩ : Cond) ∈ gb := gb_of (List.mem_of_getElem? (i := 450) (by decide +kernel)) (by decide +kernel)
theorem kw_451 : (.instanceMethod ⟨"TileBinsModel", "count", "(I)I"⟩ : Cond) ∈ gb := gb_of (List.mem_of_getElem? (i := 451) (by decide +kernel)) (by decide +kernel)
theorem kw_452 : (.selects "TileBinsModel" ⟨"TileBinsModel", "count", "(I)I"⟩ ⟨"TileBinsModel", "count", "(I)I"⟩ : Cond) ∈ gb := gb_of (List.mem_of_getElem? (i := 452) (by decide +kernel)) (by decide +kernel)
theorem kw_453 : (.code ⟨"TileBinsModel", "count", "(I)I"⟩ prog_3_method_23_code 2 (Option.some .int) : Cond) ∈ gb := gb_of (List.mem_of_getElem? (i := 453) (by decide +kernel)) (by decide +kernel)
theorem kw_454 : (.arrayClass .long : Cond) ∈ gb := gb_of (List.mem_of_getElem? (i := 454) (by decide +kernel)) (by decide +kernel)
theorem kw_455 : (.sameMethod "java/lang/Throwable" "java/lang/Throwable" "fillInStackTrace" "(I)Ljava/lang/Throwable;" : Cond) ∈ gb := gb_of (List.mem_of_getElem? (i := 455) (by decide +kernel)) (by decide +kernel)
end
section
/-! my own rows over the kit: calls that write nothing, the words of a throw carried along -/
/-- nothing that was there is written -/
def ro_A (sz : Nat) : Nat → Prop := fun q => sz ≤ q
theorem ro_kept {D : va_G} {cl : List vw_C} {ws : va_W} {H H1 : Heap} (hP : va_P D cl ws H) (hk : ∀ q : Nat, q < H.size → H1[q]? = H[q]?) : va_P D cl ws H1 :=
  hP.kept (fun k q h => hk q.1 (hP k q h).lt)
/-- a start that asks for cells alone -/
def ro_P (D : va_G) (cl : List vw_C) (ws : va_W) (tys : List (ClassId × FieldType)) (sz : Nat) (U : State) : Prop := U.heap.size = sz ∧ va_P D cl ws U.heap ∧ va_K D cl tys U
theorem ro_P.blind {D : va_G} {cl : List vw_C} {ws : va_W} {tys : List (ClassId × FieldType)} {sz : Nat} {av : List Value} : FrameBlind (va_Pc av (ro_P D cl ws tys sz)) := fun a U g mk q => by
  obtain ⟨q0, q1, qP, qK⟩ := q
  exact ⟨q0, q1, qP, va_K.moved (u := U) (U := U.calling g mk a) (Vm.Alike.refl U.vm) qK⟩
theorem ro_P.at {D : va_G} {cl : List vw_C} {ws : va_W} {tys : List (ClassId × FieldType)} {H : Heap} {s : State} (hP : va_P D cl ws H) (hK : va_K D cl tys s) {av : List Value} : ∀ U : State, U.heap = H → s.WarmedH U.vm → va_Pc av (ro_P D cl ws tys H.size) av.toArray U :=
  fun U hU hW => ⟨rfl, by rw [hU], by rw [hU]; exact hP, va_K.moved hW.alike hK⟩
section ROC
variable {p : Program} {l : Launch} {e : Env} {R : Room} {s : State} {m : MethodId} {args : Array Value} {below : List Frame} {meth : Method} {c : Code} {H : Heap} {locs : List Loc} {cells slots : Nat} {Q : State → Prop}
variable {A0 : Nat → Prop} {H0 : Heap} {a : Array Value} {pc : Nat} {ls : Array Slot} {st0 rest : List Value} {D : va_G} {cl : List vw_C} {ws : va_W}
/-- a call that writes nothing and makes nothing: the world stays -/
theorem ro_calli {v : Int32} (hr : va_Run p l e R s m args below meth c H locs cells slots 0 0 (F0 m pc ls st0) rest (va_Qi (fun (r : Int32) (_ : Unit) => r = v) (fun _ _ => True) (ro_A H.size) a) (ro_A H.size)) (hP : va_P D cl ws H) (hS : va_S A0 H0 H locs) (hA : ∀ q, H0.size ≤ q → A0 q)
    (kk : ∀ (H1 : Heap) (locs1 : List Loc), va_P D cl ws H1 → va_S A0 H0 H1 locs1 → H.size ≤ H1.size → (∀ q : Nat, q < H.size → H1[q]? = H[q]?) → W p l e R s m args below meth c H1 locs1 cells slots Q (F0 m (pc + 3) ls (.int v :: rest))) : W p l e R s m args below meth c H locs cells slots Q (F0 m pc ls st0) := by
  refine va_calli hr hS (fun q _ h => hA q (Nat.le_trans hS.1 h)) (fun q h => hA q (Nat.le_trans hS.1 h)) (fun r u t H1 locs1 ht hvm hw hB hz hk hS1 => ?_)
  have hw : r = v := hw
  subst hw
  have hk' : ∀ q : Nat, q < H.size → H1[q]? = H[q]? := fun q h => hk q h (Nat.not_le.mpr h)
  exact kk H1 locs1 (ro_kept hP hk') hS1 hz hk'
end ROC
/-- a start that asks for cells that are apart -/
def mu_P (D : va_G) (cl : List vw_C) (ws : va_W) (tys : List (ClassId × FieldType)) (sz : Nat) (U : State) : Prop := U.heap.size = sz ∧ va_P D cl ws U.heap ∧ va_K D cl tys U ∧ va_D (fun _ => True) ws
theorem mu_P.blind {D : va_G} {cl : List vw_C} {ws : va_W} {tys : List (ClassId × FieldType)} {sz : Nat} {av : List Value} : FrameBlind (va_Pc av (mu_P D cl ws tys sz)) := fun a U g mk q => by
  obtain ⟨q0, q1, qP, qK, qD⟩ := q
  exact ⟨q0, q1, qP, va_K.moved (u := U) (U := U.calling g mk a) (Vm.Alike.refl U.vm) qK, qD⟩
theorem mu_P.at {D : va_G} {cl : List vw_C} {ws : va_W} {tys : List (ClassId × FieldType)} {H : Heap} {s : State} {A : Nat → Prop} (hP : va_P D cl ws H) (hK : va_K D cl tys s) (hD : va_D A ws) {av : List Value} : ∀ U : State, U.heap = H → s.WarmedH U.vm → va_Pc av (mu_P D cl ws tys H.size) av.toArray U :=
  fun U hU hW => ⟨rfl, by rw [hU], by rw [hU]; exact hP, va_K.moved hW.alike hK, hD.weaken (fun _ _ _ _ => trivial)⟩
theorem va_S.refl' {A : Nat → Prop} {H0 : Heap} : va_S A H0 H0 [] := va_S.rf
/-! switches from 0 on -/
theorem sw_out5 {x : Int32} (h0 : ¬ x = 0) (h1 : ¬ x = 1) (h2 : ¬ x = 2) (h3 : ¬ x = 3) (h4 : ¬ x = 4) : x.toInt < 0 ∨ 4 < x.toInt := by
  have a0 := lv_neT h0 (a := 0) rfl
  have a1 := lv_neT h1 (a := 1) rfl
  have a2 := lv_neT h2 (a := 2) rfl
  have a3 := lv_neT h3 (a := 3) rfl
  have a4 := lv_neT h4 (a := 4) rfl
  omega
theorem sw_out6 {x : Int32} (h0 : ¬ x = 0) (h1 : ¬ x = 1) (h2 : ¬ x = 2) (h3 : ¬ x = 3) (h4 : ¬ x = 4) (h5 : ¬ x = 5) : x.toInt < 0 ∨ 5 < x.toInt := by
  have a := sw_out5 h0 h1 h2 h3 h4
  have a5 := lv_neT h5 (a := 5) rfl
  omega
theorem sw_out9 {x : Int32} (h0 : ¬ x = 0) (h1 : ¬ x = 1) (h2 : ¬ x = 2) (h3 : ¬ x = 3) (h4 : ¬ x = 4) (h5 : ¬ x = 5) (h6 : ¬ x = 6) (h7 : ¬ x = 7) (h8 : ¬ x = 8) : x.toInt < 0 ∨ 8 < x.toInt := by
  have a := sw_out6 h0 h1 h2 h3 h4 h5
  have a6 := lv_neT h6 (a := 6) rfl
  have a7 := lv_neT h7 (a := 7) rfl
  have a8 := lv_neT h8 (a := 8) rfl
  omega

theorem gb_g {ws : List Cond} (h : ∀ w ∈ ws, w ∈ gb) : GoodIn gb ws := fun w hw => ⟨h w hw, good_of_word (gb_in w (h w hw)).2⟩
theorem gb_c {cw : Cond} (h5 : cw ∈ gb) : GoodIn gb (cw :: gb) := gb_g (fun w hw => (List.mem_cons.mp hw).elim (fun e => by rw [e]; exact h5) id)
theorem gb_v {own C : String} {idx : Nat} {y : MethodName} {cw : Cond} (h1 : Cond.methodLink own idx y ∈ gb) (h2 : Cond.instanceMethod y ∈ gb) (h3 : Cond.selects C y y ∈ gb) (h4 : Cond.initialized C ∈ gb) (h5 : cw ∈ gb) : GoodIn gb (wsV own idx C y (cw :: gb)) :=
  gb_g (fun w hw => by
    rcases List.mem_append.mp hw with h | h
    · simp only [List.mem_cons, List.not_mem_nil, or_false] at h
      rcases h with rfl | rfl | rfl | rfl
      · exact h1
      · exact h2
      · exact h3
      · exact h4
    · exact (gb_c h5 w h).1)
theorem gb_s {own : String} {idx : Nat} {y : MethodName} {cw : Cond} (h1 : Cond.methodLink own idx y ∈ gb) (h2 : Cond.static y ∈ gb) (h4 : Cond.initialized y.cls ∈ gb) (h5 : cw ∈ gb) : GoodIn gb (va_wsS own idx y (cw :: gb)) :=
  gb_g (fun w hw => by
    rcases List.mem_append.mp hw with h | h
    · simp only [List.mem_cons, List.not_mem_nil, or_false] at h
      rcases h with rfl | rfl | rfl
      · exact h1
      · exact h2
      · exact h4
    · exact (gb_c h5 w h).1)
theorem kw_obj : (Cond.code Lib.objectInit ⟨#[0xb1]⟩ 1 none) ∈ gb := by decide +kernel
theorem kw_mmax : (Cond.code Lib.Math.max.name Lib.Math.max.code 2 (some .int)) ∈ gb := by decide +kernel
theorem kw_mmin : (Cond.code Lib.Math.min.name Lib.Math.min.code 2 (some .int)) ∈ gb := by decide +kernel
/-! the words of a throw that no table keeps: carried along -/
def tbBad : List Cond := [.castable "java/lang/IllegalArgumentException" "java/lang/IllegalArgumentException", .castable "java/lang/IllegalStateException" "java/lang/IllegalStateException", .castable "java/lang/IndexOutOfBoundsException" "java/lang/IndexOutOfBoundsException", .declares ⟨"java/lang/RuntimeException", "<init>", "(Ljava/lang/String;)V"⟩, .declares ⟨"java/lang/Exception", "<init>", "(Ljava/lang/String;)V"⟩, .declares ⟨"java/lang/Throwable", "<init>", "(Ljava/lang/String;)V"⟩]
def tbStr : List (Nat × String) := [(23, "a field is 1 to 1024 places wide and high"), (32, "a side is 8, 16, 32 or 64"), (34, "a store has 1 to 8192 cells"), (70, "the field is full"), (83, "there is no such tile"), (94, "no tile is open"), (101, "there is no such item"), (104, "of an item there is 0 to 5"), (115, "of a tile there is 0 to 4"), (117, "the place is not in the field"), (125, "there is a count of 0 to 4")]
def tbZ (A : Nat → Prop) (U : State) (H : Heap) : Prop := vx_Zq Bundle.tN "UNASSIGNED_STACK" Bundle.steD A U H ∧ vx_Zq Bundle.tN "SUPPRESSED_SENTINEL" Bundle.listD A U H ∧ (∀ w ∈ tbBad, va_Nw w U) ∧ (∀ q ∈ tbStr, ∃ sa : Nat, vk_R "TileBins" q.1 q.2 sa U) ∧ va_Nc "java/lang/IllegalArgumentException" "java/lang/IndexOutOfBoundsException" U
theorem tbBad_on : ∀ w ∈ tbBad, w.onTables = true := by decide +kernel
theorem tbZ.u {A : Nat → Prop} {U : State} {H : Heap} (h : tbZ A U H) : vx_Zq Bundle.tN "UNASSIGNED_STACK" Bundle.steD A U H := h.1
theorem tbZ.n {A : Nat → Prop} {U : State} {H : Heap} (h : tbZ A U H) : vx_Zq Bundle.tN "SUPPRESSED_SENTINEL" Bundle.listD A U H := h.2.1
theorem tbZ.bad {A : Nat → Prop} {U : State} {H : Heap} {args : Array Value} (h : tbZ A U H) : ∀ w ∈ tbBad, w.before args U = true := fun w hw => va_Nw.use (tbBad_on w hw) (h.2.2.1 w hw)
theorem tbZ.str {A : Nat → Prop} {U : State} {H : Heap} (h : tbZ A U H) (q : Nat × String) (hq : q ∈ tbStr) : ∃ sa : Nat, vk_R "TileBins" q.1 q.2 sa U := h.2.2.2.1 q hq
theorem tbZ.nc {A : Nat → Prop} {U : State} {H : Heap} (h : tbZ A U H) : va_Nc "java/lang/IllegalArgumentException" "java/lang/IndexOutOfBoundsException" U := h.2.2.2.2
theorem tbZ.warm {A : Nat → Prop} {s U : State} {H : Heap} (hW : s.WarmedH U.vm) (h : tbZ A s H) : tbZ A U H := by
  obtain ⟨h1, h2, h3, h4, h5⟩ := h
  refine ⟨vx_Zq.moved hW.alike h1, vx_Zq.moved hW.alike h2, fun w hw => ?_, fun q hq => ?_, h5.moved hW.alike⟩
  · have h9 := h3 w hw
    simp only [tbBad, List.mem_cons, List.not_mem_nil, or_false] at hw
    rcases hw with rfl | rfl | rfl | rfl | rfl | rfl
    · exact va_Nw.warmC hW h9
    · exact va_Nw.warmC hW h9
    · exact va_Nw.warmC hW h9
    · exact va_Nw.warmD hW h9
    · exact va_Nw.warmD hW h9
    · exact va_Nw.warmD hW h9
  · obtain ⟨sa, h9⟩ := h4 q hq
    exact ⟨sa, vk_R.warm hW h9⟩
theorem tbZ.same {A : Nat → Prop} {u U : State} {H : Heap} (hv : u.vm = U.vm) (h : tbZ A u H) : tbZ A U H := by
  obtain ⟨h1, h2, h3, h4, h5⟩ := h
  have ha : u.vm.Alike U.vm := by rw [hv]; exact Vm.Alike.refl U.vm
  refine ⟨vx_Zq.moved ha h1, vx_Zq.moved ha h2, fun w hw => va_Nw.same (tbBad_on w hw) hv (h3 w hw), fun q hq => ?_, h5.moved ha⟩
  obtain ⟨sa, h9⟩ := h4 q hq
  exact ⟨sa, vk_R.same hv.symm h9⟩
theorem tbZ.kept {A : Nat → Prop} {U : State} {H H1 : Heap} (h : tbZ A U H) (hq : ∀ a : Nat, a < H.size → ¬ A a → H1[a]? = H[a]?) : tbZ A U H1 := ⟨h.1.kept hq, h.2.1.kept hq, h.2.2⟩
theorem tbZ.narrow {A B : Nat → Prop} {U : State} {H : Heap} (h : tbZ A U H) (hAB : ∀ q, B q → A q) : tbZ B U H := ⟨h.1.narrow hAB, h.2.1.narrow hAB, h.2.2⟩
/-- a start that asks for cells that are apart and for the words of a throw -/
def zz_P (D : va_G) (cl : List vw_C) (ws : va_W) (tys : List (ClassId × FieldType)) (sz : Nat) (U : State) : Prop := mu_P D cl ws tys sz U ∧ tbZ (va_A ws sz) U U.heap
theorem zz_P.blind {D : va_G} {cl : List vw_C} {ws : va_W} {tys : List (ClassId × FieldType)} {sz : Nat} {av : List Value} : FrameBlind (va_Pc av (zz_P D cl ws tys sz)) := fun a U g mk q => by
  obtain ⟨q0, ⟨q1, qP, qK, qD⟩, qZ⟩ := q
  exact ⟨q0, ⟨q1, qP, va_K.moved (u := U) (U := U.calling g mk a) (Vm.Alike.refl U.vm) qK, qD⟩, tbZ.same (u := U) (U := U.calling g mk a) rfl qZ⟩
theorem zz_P.at {D : va_G} {cl : List vw_C} {ws : va_W} {tys : List (ClassId × FieldType)} {H : Heap} {s : State} {A A' : Nat → Prop} (hP : va_P D cl ws H) (hK : va_K D cl tys s) (hD : va_D A' ws) (hZ : tbZ A s H) (hF : ∀ q, va_A ws H.size q → A q) {av : List Value} : ∀ U : State, U.heap = H → s.WarmedH U.vm → va_Pc av (zz_P D cl ws tys H.size) av.toArray U :=
  fun U hU hW => ⟨rfl, ⟨by rw [hU], by rw [hU]; exact hP, va_K.moved hW.alike hK, hD.weaken (fun _ _ _ _ => trivial)⟩, by rw [hU]; exact (hZ.narrow hF).warm hW⟩
theorem th_F {A : Nat → Prop} {s t : State} {H : Heap} {locs : List Loc} (hS : va_S A s.heap H locs) (hz : H.size ≤ t.heap.size) (hk : ∀ q : Nat, q < H.size → t.heap[q]? = H[q]?) : va_F A s t :=
  ⟨Nat.le_trans hS.1 hz, fun q h1 h2 => (hk q (Nat.lt_of_lt_of_le h1 hS.1)).trans (hS.2.1 q h1 h2)⟩
def tb_exa (_ : Nat) : String := "java/lang/IllegalArgumentException"
def tb_exs (_ : Nat) : String := "java/lang/IllegalStateException"
def tb_exi (k : Nat) : String := if k = 1 then "java/lang/IndexOutOfBoundsException" else "java/lang/IllegalArgumentException"
theorem hx_Aa : ∀ w ∈ (vx_atS "TileBins" 25 "java/lang/IllegalArgumentException" ["java/lang/RuntimeException", "java/lang/Exception"]).filter goodWord, w ∈ gb := by decide +kernel
theorem hx_Ab : ∀ w ∈ (vx_atS "TileBins" 25 "java/lang/IllegalArgumentException" ["java/lang/RuntimeException", "java/lang/Exception"]).filter (fun w => !goodWord w), w ∈ tbBad := by decide +kernel
theorem hx_Ac : ∀ w ∈ Cond.classLink "TileBins" 21 "java/lang/IllegalArgumentException" :: Cond.initialized "java/lang/IllegalArgumentException" :: vx_atS "TileBins" 25 "java/lang/IllegalArgumentException" ["java/lang/RuntimeException", "java/lang/Exception"], vx_ot w = true := by decide +kernel
theorem hx_Sa : ∀ w ∈ (vx_atS "TileBins" 72 "java/lang/IllegalStateException" ["java/lang/RuntimeException", "java/lang/Exception"]).filter goodWord, w ∈ gb := by decide +kernel
theorem hx_Sb : ∀ w ∈ (vx_atS "TileBins" 72 "java/lang/IllegalStateException" ["java/lang/RuntimeException", "java/lang/Exception"]).filter (fun w => !goodWord w), w ∈ tbBad := by decide +kernel
theorem hx_Sc : ∀ w ∈ Cond.classLink "TileBins" 68 "java/lang/IllegalStateException" :: Cond.initialized "java/lang/IllegalStateException" :: vx_atS "TileBins" 72 "java/lang/IllegalStateException" ["java/lang/RuntimeException", "java/lang/Exception"], vx_ot w = true := by decide +kernel
theorem hx_Ia : ∀ w ∈ (vx_atS "TileBins" 103 "java/lang/IndexOutOfBoundsException" ["java/lang/RuntimeException", "java/lang/Exception"]).filter goodWord, w ∈ gb := by decide +kernel
theorem hx_Ib : ∀ w ∈ (vx_atS "TileBins" 103 "java/lang/IndexOutOfBoundsException" ["java/lang/RuntimeException", "java/lang/Exception"]).filter (fun w => !goodWord w), w ∈ tbBad := by decide +kernel
theorem hx_Ic : ∀ w ∈ Cond.classLink "TileBins" 99 "java/lang/IndexOutOfBoundsException" :: Cond.initialized "java/lang/IndexOutOfBoundsException" :: vx_atS "TileBins" 103 "java/lang/IndexOutOfBoundsException" ["java/lang/RuntimeException", "java/lang/Exception"], vx_ot w = true := by decide +kernel

/-! the class TileBins: its state as numbers, and the cells that hold it -/
abbrev TBA : Type := Int32 × Int32 × Int32 × Int32 × Int32 × Int32 × Int32 × Int32 × Int32 × Int32 × Nat × (Nat → Int32)
abbrev tbAt (D : va_G) (A : Nat → Prop) (h0 : Nat) (u : TBA) (t : State) : Prop := match u with
  | (fw, fh, fs, fc, fl, fe, fi, ft, fo, fa, an, af) => ∃ (q1 : Nat) (cA : ClassId), va_P D vwCl [(h0, .inr (0, [.int fw, .int fh, .int fs, .int fc, .int fl, .int fe, .ref q1, .int fi, .int ft, .int fo, .int fa])), (q1, .inl (cA, an, .inl af))] t.heap ∧ va_K D vwCl [(cA, .int)] t ∧ va_D A [(h0, .inr (0, [.int fw, .int fh, .int fs, .int fc, .int fl, .int fe, .ref q1, .int fi, .int ft, .int fo, .int fa])), (q1, .inl (cA, an, .inl af))]
end
section
abbrev wsX0_init : List Cond := Cond.code yX0_init cX0_init 1 none :: gb
abbrev wsX0_field : List Cond := Cond.code yX0_field cX0_field 6 (some .int) :: gb
abbrev wsX0_put : List Cond := Cond.code yX0_put cX0_put 13 (some .int) :: gb
abbrev wsX0_empty : List Cond := Cond.code yX0_empty cX0_empty 1 none :: gb
abbrev wsX0_open : List Cond := Cond.code yX0_open cX0_open 2 (some .int) :: gb
abbrev wsX0_next : List Cond := Cond.code yX0_next cX0_next 2 (some .int) :: gb
abbrev wsX0_item : List Cond := Cond.code yX0_item cX0_item 3 (some .int) :: gb
abbrev wsX0_tile : List Cond := Cond.code yX0_tile cX0_tile 3 (some .int) :: gb
abbrev wsX0_tileOf : List Cond := Cond.code yX0_tileOf cX0_tileOf 3 (some .int) :: gb
abbrev wsX0_count : List Cond := Cond.code yX0_count cX0_count 2 (some .int) :: gb
abbrev wsX0_layOut : List Cond := Cond.code yX0_layOut cX0_layOut 5 none :: gb
abbrev wsX0_takeAllOut : List Cond := Cond.code yX0_takeAllOut cX0_takeAllOut 1 none :: gb
abbrev wsX0_makeRoom : List Cond := Cond.code yX0_makeRoom cX0_makeRoom 1 none :: gb
abbrev wsX0_tilesAcross : List Cond := Cond.code yX0_tilesAcross cX0_tilesAcross 3 (some .int) :: gb
abbrev wsX0_tilesInAll : List Cond := Cond.code yX0_tilesInAll cX0_tilesInAll 1 (some .int) :: gb
abbrev wsX0_isTile : List Cond := Cond.code yX0_isTile cX0_isTile 2 (some .boolean) :: gb
abbrev wsX0_sideLength : List Cond := Cond.code yX0_sideLength cX0_sideLength 1 (some .int) :: gb
abbrev wsX0_leftOf : List Cond := Cond.code yX0_leftOf cX0_leftOf 2 (some .int) :: gb
abbrev wsX0_topOf : List Cond := Cond.code yX0_topOf cX0_topOf 2 (some .int) :: gb
abbrev wsX0_itemsTouching : List Cond := Cond.code yX0_itemsTouching cX0_itemsTouching 6 (some .int) :: gb
abbrev wsX0_firstTouching : List Cond := Cond.code yX0_firstTouching cX0_firstTouching 6 (some .int) :: gb
abbrev wsX0_touches : List Cond := Cond.code yX0_touches cX0_touches 5 (some .boolean) :: gb
abbrev wsX0_isWithin : List Cond := Cond.code yX0_isWithin cX0_isWithin 3 (some .boolean) :: gb
abbrev wsX0_powerOf : List Cond := Cond.code yX0_powerOf cX0_powerOf 1 (some .int) :: gb
abbrev wsJ7_copyOf : List Cond := Cond.code yJ7_copyOf cJ7_copyOf 3 (some (.array .int)) :: gb
theorem dX0_init_0 : decode cX0_init 0 = .ok (.aload_n 0, 1) := by decide +kernel
theorem dX0_init_1 : decode cX0_init 1 = .ok (.invokespecial 1, 3) := by decide +kernel
theorem dX0_init_4 : decode cX0_init 4 = .ok (.aload_n 0, 1) := by decide +kernel
theorem dX0_init_5 : decode cX0_init 5 = .ok (.bipush 96, 2) := by decide +kernel
theorem dX0_init_7 : decode cX0_init 7 = .ok (.newarray .int, 2) := by decide +kernel
theorem dX0_init_9 : decode cX0_init 9 = .ok (.putfield 9, 3) := by decide +kernel
theorem dX0_init_12 : decode cX0_init 12 = .ok (.aload_n 0, 1) := by decide +kernel
theorem dX0_init_13 : decode cX0_init 13 = .ok (.iconst 1, 1) := by decide +kernel
theorem dX0_init_14 : decode cX0_init 14 = .ok (.iconst 1, 1) := by decide +kernel
theorem dX0_init_15 : decode cX0_init 15 = .ok (.iconst 3, 1) := by decide +kernel
theorem dX0_init_16 : decode cX0_init 16 = .ok (.bipush 64, 2) := by decide +kernel
theorem dX0_init_18 : decode cX0_init 18 = .ok (.invokevirtual 13, 3) := by decide +kernel
theorem dX0_init_21 : decode cX0_init 21 = .ok (.return_, 1) := by decide +kernel
theorem dX0_field_0 : decode cX0_field 0 = .ok (.iload_n 1, 1) := by decide +kernel
theorem dX0_field_1 : decode cX0_field 1 = .ok (.iconst 1, 1) := by decide +kernel
theorem dX0_field_2 : decode cX0_field 2 = .ok (.sipush 1024, 3) := by decide +kernel
theorem dX0_field_5 : decode cX0_field 5 = .ok (.invokestatic 17, 3) := by decide +kernel
theorem dX0_field_8 : decode cX0_field 8 = .ok (.ifCond .eq 14, 3) := by decide +kernel
theorem dX0_field_11 : decode cX0_field 11 = .ok (.iload_n 2, 1) := by decide +kernel
theorem dX0_field_12 : decode cX0_field 12 = .ok (.iconst 1, 1) := by decide +kernel
theorem dX0_field_13 : decode cX0_field 13 = .ok (.sipush 1024, 3) := by decide +kernel
theorem dX0_field_16 : decode cX0_field 16 = .ok (.invokestatic 17, 3) := by decide +kernel
theorem dX0_field_19 : decode cX0_field 19 = .ok (.ifCond .ne 13, 3) := by decide +kernel
theorem dX0_field_22 : decode cX0_field 22 = .ok (.new 21, 3) := by decide +kernel
theorem dX0_field_25 : decode cX0_field 25 = .ok (.dup, 1) := by decide +kernel
theorem dX0_field_26 : decode cX0_field 26 = .ok (.ldc 23, 2) := by decide +kernel
theorem dX0_field_28 : decode cX0_field 28 = .ok (.invokespecial 25, 3) := by decide +kernel
theorem dX0_field_31 : decode cX0_field 31 = .ok (.athrow, 1) := by decide +kernel
theorem dX0_field_32 : decode cX0_field 32 = .ok (.iload_n 3, 1) := by decide +kernel
theorem dX0_field_33 : decode cX0_field 33 = .ok (.invokestatic 28, 3) := by decide +kernel
theorem dX0_field_36 : decode cX0_field 36 = .ok (.istore 5, 2) := by decide +kernel
theorem dX0_field_38 : decode cX0_field 38 = .ok (.iload 5, 2) := by decide +kernel
theorem dX0_field_40 : decode cX0_field 40 = .ok (.iconst (-1), 1) := by decide +kernel
theorem dX0_field_41 : decode cX0_field 41 = .ok (.if_icmp .ne 13, 3) := by decide +kernel
theorem dX0_field_44 : decode cX0_field 44 = .ok (.new 21, 3) := by decide +kernel
theorem dX0_field_47 : decode cX0_field 47 = .ok (.dup, 1) := by decide +kernel
theorem dX0_field_48 : decode cX0_field 48 = .ok (.ldc 32, 2) := by decide +kernel
theorem dX0_field_50 : decode cX0_field 50 = .ok (.invokespecial 25, 3) := by decide +kernel
theorem dX0_field_53 : decode cX0_field 53 = .ok (.athrow, 1) := by decide +kernel
theorem dX0_field_54 : decode cX0_field 54 = .ok (.iload 4, 2) := by decide +kernel
theorem dX0_field_56 : decode cX0_field 56 = .ok (.iconst 1, 1) := by decide +kernel
theorem dX0_field_57 : decode cX0_field 57 = .ok (.sipush 8192, 3) := by decide +kernel
theorem dX0_field_60 : decode cX0_field 60 = .ok (.invokestatic 17, 3) := by decide +kernel
theorem dX0_field_63 : decode cX0_field 63 = .ok (.ifCond .ne 13, 3) := by decide +kernel
theorem dX0_field_66 : decode cX0_field 66 = .ok (.new 21, 3) := by decide +kernel
theorem dX0_field_69 : decode cX0_field 69 = .ok (.dup, 1) := by decide +kernel
theorem dX0_field_70 : decode cX0_field 70 = .ok (.ldc 34, 2) := by decide +kernel
theorem dX0_field_72 : decode cX0_field 72 = .ok (.invokespecial 25, 3) := by decide +kernel
theorem dX0_field_75 : decode cX0_field 75 = .ok (.athrow, 1) := by decide +kernel
theorem dX0_field_76 : decode cX0_field 76 = .ok (.aload_n 0, 1) := by decide +kernel
theorem dX0_field_77 : decode cX0_field 77 = .ok (.iload_n 1, 1) := by decide +kernel
theorem dX0_field_78 : decode cX0_field 78 = .ok (.iload_n 2, 1) := by decide +kernel
theorem dX0_field_79 : decode cX0_field 79 = .ok (.iload 5, 2) := by decide +kernel
theorem dX0_field_81 : decode cX0_field 81 = .ok (.iload 4, 2) := by decide +kernel
theorem dX0_field_83 : decode cX0_field 83 = .ok (.invokevirtual 13, 3) := by decide +kernel
theorem dX0_field_86 : decode cX0_field 86 = .ok (.aload_n 0, 1) := by decide +kernel
theorem dX0_field_87 : decode cX0_field 87 = .ok (.invokevirtual 36, 3) := by decide +kernel
theorem dX0_field_90 : decode cX0_field 90 = .ok (.ireturn, 1) := by decide +kernel
theorem dX0_put_0 : decode cX0_put 0 = .ok (.iload_n 1, 1) := by decide +kernel
theorem dX0_put_1 : decode cX0_put 1 = .ok (.iconst 0, 1) := by decide +kernel
theorem dX0_put_2 : decode cX0_put 2 = .ok (.invokestatic 40, 3) := by decide +kernel
theorem dX0_put_5 : decode cX0_put 5 = .ok (.istore 6, 2) := by decide +kernel
theorem dX0_put_7 : decode cX0_put 7 = .ok (.iload_n 2, 1) := by decide +kernel
theorem dX0_put_8 : decode cX0_put 8 = .ok (.iconst 0, 1) := by decide +kernel
theorem dX0_put_9 : decode cX0_put 9 = .ok (.invokestatic 40, 3) := by decide +kernel
theorem dX0_put_12 : decode cX0_put 12 = .ok (.istore 7, 2) := by decide +kernel
theorem dX0_put_14 : decode cX0_put 14 = .ok (.iload_n 3, 1) := by decide +kernel
theorem dX0_put_15 : decode cX0_put 15 = .ok (.aload_n 0, 1) := by decide +kernel
theorem dX0_put_16 : decode cX0_put 16 = .ok (.getfield 46, 3) := by decide +kernel
theorem dX0_put_19 : decode cX0_put 19 = .ok (.invokestatic 50, 3) := by decide +kernel
theorem dX0_put_22 : decode cX0_put 22 = .ok (.istore 8, 2) := by decide +kernel
theorem dX0_put_24 : decode cX0_put 24 = .ok (.iload 4, 2) := by decide +kernel
theorem dX0_put_26 : decode cX0_put 26 = .ok (.aload_n 0, 1) := by decide +kernel
theorem dX0_put_27 : decode cX0_put 27 = .ok (.getfield 53, 3) := by decide +kernel
theorem dX0_put_30 : decode cX0_put 30 = .ok (.invokestatic 50, 3) := by decide +kernel
theorem dX0_put_33 : decode cX0_put 33 = .ok (.istore 9, 2) := by decide +kernel
theorem dX0_put_35 : decode cX0_put 35 = .ok (.iload 6, 2) := by decide +kernel
theorem dX0_put_37 : decode cX0_put 37 = .ok (.iload 8, 2) := by decide +kernel
theorem dX0_put_39 : decode cX0_put 39 = .ok (.if_icmp .ge 14, 3) := by decide +kernel
theorem dX0_put_42 : decode cX0_put 42 = .ok (.iload 7, 2) := by decide +kernel
theorem dX0_put_44 : decode cX0_put 44 = .ok (.iload 9, 2) := by decide +kernel
theorem dX0_put_46 : decode cX0_put 46 = .ok (.if_icmp .ge 7, 3) := by decide +kernel
theorem dX0_put_49 : decode cX0_put 49 = .ok (.iconst 1, 1) := by decide +kernel
theorem dX0_put_50 : decode cX0_put 50 = .ok (.goto 4, 3) := by decide +kernel
theorem dX0_put_53 : decode cX0_put 53 = .ok (.iconst 0, 1) := by decide +kernel
theorem dX0_put_54 : decode cX0_put 54 = .ok (.istore 10, 2) := by decide +kernel
theorem dX0_put_56 : decode cX0_put 56 = .ok (.iload 10, 2) := by decide +kernel
theorem dX0_put_58 : decode cX0_put 58 = .ok (.ifCond .eq 23, 3) := by decide +kernel
theorem dX0_put_61 : decode cX0_put 61 = .ok (.aload_n 0, 1) := by decide +kernel
theorem dX0_put_62 : decode cX0_put 62 = .ok (.iload 6, 2) := by decide +kernel
theorem dX0_put_64 : decode cX0_put 64 = .ok (.iload 8, 2) := by decide +kernel
theorem dX0_put_66 : decode cX0_put 66 = .ok (.invokevirtual 56, 3) := by decide +kernel
theorem dX0_put_69 : decode cX0_put 69 = .ok (.aload_n 0, 1) := by decide +kernel
theorem dX0_put_70 : decode cX0_put 70 = .ok (.iload 7, 2) := by decide +kernel
theorem dX0_put_72 : decode cX0_put 72 = .ok (.iload 9, 2) := by decide +kernel
theorem dX0_put_74 : decode cX0_put 74 = .ok (.invokevirtual 56, 3) := by decide +kernel
theorem dX0_put_77 : decode cX0_put 77 = .ok (.imul, 1) := by decide +kernel
theorem dX0_put_78 : decode cX0_put 78 = .ok (.goto 4, 3) := by decide +kernel
theorem dX0_put_81 : decode cX0_put 81 = .ok (.iconst 0, 1) := by decide +kernel
theorem dX0_put_82 : decode cX0_put 82 = .ok (.istore 11, 2) := by decide +kernel
theorem dX0_put_84 : decode cX0_put 84 = .ok (.aload_n 0, 1) := by decide +kernel
theorem dX0_put_85 : decode cX0_put 85 = .ok (.getfield 59, 3) := by decide +kernel
theorem dX0_put_88 : decode cX0_put 88 = .ok (.sipush 4096, 3) := by decide +kernel
theorem dX0_put_91 : decode cX0_put 91 = .ok (.if_icmp .ge 17, 3) := by decide +kernel
theorem dX0_put_94 : decode cX0_put 94 = .ok (.iload 11, 2) := by decide +kernel
theorem dX0_put_96 : decode cX0_put 96 = .ok (.aload_n 0, 1) := by decide +kernel
theorem dX0_put_97 : decode cX0_put 97 = .ok (.getfield 62, 3) := by decide +kernel
theorem dX0_put_100 : decode cX0_put 100 = .ok (.aload_n 0, 1) := by decide +kernel
theorem dX0_put_101 : decode cX0_put 101 = .ok (.getfield 65, 3) := by decide +kernel
theorem dX0_put_104 : decode cX0_put 104 = .ok (.isub, 1) := by decide +kernel
theorem dX0_put_105 : decode cX0_put 105 = .ok (.if_icmp .le 13, 3) := by decide +kernel
theorem dX0_put_108 : decode cX0_put 108 = .ok (.new 68, 3) := by decide +kernel
theorem dX0_put_111 : decode cX0_put 111 = .ok (.dup, 1) := by decide +kernel
theorem dX0_put_112 : decode cX0_put 112 = .ok (.ldc 70, 2) := by decide +kernel
theorem dX0_put_114 : decode cX0_put 114 = .ok (.invokespecial 72, 3) := by decide +kernel
theorem dX0_put_117 : decode cX0_put 117 = .ok (.athrow, 1) := by decide +kernel
theorem dX0_put_118 : decode cX0_put 118 = .ok (.aload_n 0, 1) := by decide +kernel
theorem dX0_put_119 : decode cX0_put 119 = .ok (.invokevirtual 73, 3) := by decide +kernel
theorem dX0_put_122 : decode cX0_put 122 = .ok (.aload_n 0, 1) := by decide +kernel
theorem dX0_put_123 : decode cX0_put 123 = .ok (.getfield 59, 3) := by decide +kernel
theorem dX0_put_126 : decode cX0_put 126 = .ok (.bipush 6, 2) := by decide +kernel
theorem dX0_put_128 : decode cX0_put 128 = .ok (.imul, 1) := by decide +kernel
theorem dX0_put_129 : decode cX0_put 129 = .ok (.istore 12, 2) := by decide +kernel
theorem dX0_put_131 : decode cX0_put 131 = .ok (.aload_n 0, 1) := by decide +kernel
theorem dX0_put_132 : decode cX0_put 132 = .ok (.getfield 9, 3) := by decide +kernel
theorem dX0_put_135 : decode cX0_put 135 = .ok (.iload 12, 2) := by decide +kernel
theorem dX0_put_137 : decode cX0_put 137 = .ok (.iconst 0, 1) := by decide +kernel
theorem dX0_put_138 : decode cX0_put 138 = .ok (.iadd, 1) := by decide +kernel
theorem dX0_put_139 : decode cX0_put 139 = .ok (.iload 10, 2) := by decide +kernel
theorem dX0_put_141 : decode cX0_put 141 = .ok (.ifCond .eq 8, 3) := by decide +kernel
theorem dX0_put_144 : decode cX0_put 144 = .ok (.iload 6, 2) := by decide +kernel
theorem dX0_put_146 : decode cX0_put 146 = .ok (.goto 4, 3) := by decide +kernel
theorem dX0_put_149 : decode cX0_put 149 = .ok (.iconst 0, 1) := by decide +kernel
theorem dX0_put_150 : decode cX0_put 150 = .ok (.iastore, 1) := by decide +kernel
theorem dX0_put_151 : decode cX0_put 151 = .ok (.aload_n 0, 1) := by decide +kernel
theorem dX0_put_152 : decode cX0_put 152 = .ok (.getfield 9, 3) := by decide +kernel
theorem dX0_put_155 : decode cX0_put 155 = .ok (.iload 12, 2) := by decide +kernel
theorem dX0_put_157 : decode cX0_put 157 = .ok (.iconst 1, 1) := by decide +kernel
theorem dX0_put_158 : decode cX0_put 158 = .ok (.iadd, 1) := by decide +kernel
theorem dX0_put_159 : decode cX0_put 159 = .ok (.iload 10, 2) := by decide +kernel
theorem dX0_put_161 : decode cX0_put 161 = .ok (.ifCond .eq 8, 3) := by decide +kernel
theorem dX0_put_164 : decode cX0_put 164 = .ok (.iload 7, 2) := by decide +kernel
theorem dX0_put_166 : decode cX0_put 166 = .ok (.goto 4, 3) := by decide +kernel
theorem dX0_put_169 : decode cX0_put 169 = .ok (.iconst 0, 1) := by decide +kernel
theorem dX0_put_170 : decode cX0_put 170 = .ok (.iastore, 1) := by decide +kernel
theorem dX0_put_171 : decode cX0_put 171 = .ok (.aload_n 0, 1) := by decide +kernel
theorem dX0_put_172 : decode cX0_put 172 = .ok (.getfield 9, 3) := by decide +kernel
theorem dX0_put_175 : decode cX0_put 175 = .ok (.iload 12, 2) := by decide +kernel
theorem dX0_put_177 : decode cX0_put 177 = .ok (.iconst 2, 1) := by decide +kernel
theorem dX0_put_178 : decode cX0_put 178 = .ok (.iadd, 1) := by decide +kernel
theorem dX0_put_179 : decode cX0_put 179 = .ok (.iload 10, 2) := by decide +kernel
theorem dX0_put_181 : decode cX0_put 181 = .ok (.ifCond .eq 8, 3) := by decide +kernel
theorem dX0_put_184 : decode cX0_put 184 = .ok (.iload 8, 2) := by decide +kernel
theorem dX0_put_186 : decode cX0_put 186 = .ok (.goto 4, 3) := by decide +kernel
theorem dX0_put_189 : decode cX0_put 189 = .ok (.iconst 0, 1) := by decide +kernel
theorem dX0_put_190 : decode cX0_put 190 = .ok (.iastore, 1) := by decide +kernel
theorem dX0_put_191 : decode cX0_put 191 = .ok (.aload_n 0, 1) := by decide +kernel
theorem dX0_put_192 : decode cX0_put 192 = .ok (.getfield 9, 3) := by decide +kernel
theorem dX0_put_195 : decode cX0_put 195 = .ok (.iload 12, 2) := by decide +kernel
theorem dX0_put_197 : decode cX0_put 197 = .ok (.iconst 3, 1) := by decide +kernel
theorem dX0_put_198 : decode cX0_put 198 = .ok (.iadd, 1) := by decide +kernel
theorem dX0_put_199 : decode cX0_put 199 = .ok (.iload 10, 2) := by decide +kernel
theorem dX0_put_201 : decode cX0_put 201 = .ok (.ifCond .eq 8, 3) := by decide +kernel
theorem dX0_put_204 : decode cX0_put 204 = .ok (.iload 9, 2) := by decide +kernel
theorem dX0_put_206 : decode cX0_put 206 = .ok (.goto 4, 3) := by decide +kernel
theorem dX0_put_209 : decode cX0_put 209 = .ok (.iconst 0, 1) := by decide +kernel
theorem dX0_put_210 : decode cX0_put 210 = .ok (.iastore, 1) := by decide +kernel
theorem dX0_put_211 : decode cX0_put 211 = .ok (.aload_n 0, 1) := by decide +kernel
theorem dX0_put_212 : decode cX0_put 212 = .ok (.getfield 9, 3) := by decide +kernel
theorem dX0_put_215 : decode cX0_put 215 = .ok (.iload 12, 2) := by decide +kernel
theorem dX0_put_217 : decode cX0_put 217 = .ok (.iconst 4, 1) := by decide +kernel
theorem dX0_put_218 : decode cX0_put 218 = .ok (.iadd, 1) := by decide +kernel
theorem dX0_put_219 : decode cX0_put 219 = .ok (.iload 5, 2) := by decide +kernel
theorem dX0_put_221 : decode cX0_put 221 = .ok (.iastore, 1) := by decide +kernel
theorem dX0_put_222 : decode cX0_put 222 = .ok (.aload_n 0, 1) := by decide +kernel
theorem dX0_put_223 : decode cX0_put 223 = .ok (.getfield 9, 3) := by decide +kernel
theorem dX0_put_226 : decode cX0_put 226 = .ok (.iload 12, 2) := by decide +kernel
theorem dX0_put_228 : decode cX0_put 228 = .ok (.iconst 5, 1) := by decide +kernel
theorem dX0_put_229 : decode cX0_put 229 = .ok (.iadd, 1) := by decide +kernel
theorem dX0_put_230 : decode cX0_put 230 = .ok (.iload 11, 2) := by decide +kernel
theorem dX0_put_232 : decode cX0_put 232 = .ok (.iastore, 1) := by decide +kernel
theorem dX0_put_233 : decode cX0_put 233 = .ok (.aload_n 0, 1) := by decide +kernel
theorem dX0_put_234 : decode cX0_put 234 = .ok (.dup, 1) := by decide +kernel
theorem dX0_put_235 : decode cX0_put 235 = .ok (.getfield 59, 3) := by decide +kernel
theorem dX0_put_238 : decode cX0_put 238 = .ok (.iconst 1, 1) := by decide +kernel
theorem dX0_put_239 : decode cX0_put 239 = .ok (.iadd, 1) := by decide +kernel
theorem dX0_put_240 : decode cX0_put 240 = .ok (.putfield 59, 3) := by decide +kernel
theorem dX0_put_243 : decode cX0_put 243 = .ok (.aload_n 0, 1) := by decide +kernel
theorem dX0_put_244 : decode cX0_put 244 = .ok (.dup, 1) := by decide +kernel
theorem dX0_put_245 : decode cX0_put 245 = .ok (.getfield 65, 3) := by decide +kernel
theorem dX0_put_248 : decode cX0_put 248 = .ok (.iload 11, 2) := by decide +kernel
theorem dX0_put_250 : decode cX0_put 250 = .ok (.iadd, 1) := by decide +kernel
theorem dX0_put_251 : decode cX0_put 251 = .ok (.putfield 65, 3) := by decide +kernel
theorem dX0_put_254 : decode cX0_put 254 = .ok (.aload_n 0, 1) := by decide +kernel
theorem dX0_put_255 : decode cX0_put 255 = .ok (.getfield 59, 3) := by decide +kernel
theorem dX0_put_258 : decode cX0_put 258 = .ok (.iconst 1, 1) := by decide +kernel
theorem dX0_put_259 : decode cX0_put 259 = .ok (.isub, 1) := by decide +kernel
theorem dX0_put_260 : decode cX0_put 260 = .ok (.ireturn, 1) := by decide +kernel
theorem dX0_empty_0 : decode cX0_empty 0 = .ok (.aload_n 0, 1) := by decide +kernel
theorem dX0_empty_1 : decode cX0_empty 1 = .ok (.invokevirtual 76, 3) := by decide +kernel
theorem dX0_empty_4 : decode cX0_empty 4 = .ok (.return_, 1) := by decide +kernel
theorem dX0_open_0 : decode cX0_open 0 = .ok (.aload_n 0, 1) := by decide +kernel
theorem dX0_open_1 : decode cX0_open 1 = .ok (.iload_n 1, 1) := by decide +kernel
theorem dX0_open_2 : decode cX0_open 2 = .ok (.invokevirtual 79, 3) := by decide +kernel
theorem dX0_open_5 : decode cX0_open 5 = .ok (.ifCond .ne 13, 3) := by decide +kernel
theorem dX0_open_8 : decode cX0_open 8 = .ok (.new 21, 3) := by decide +kernel
theorem dX0_open_11 : decode cX0_open 11 = .ok (.dup, 1) := by decide +kernel
theorem dX0_open_12 : decode cX0_open 12 = .ok (.ldc 83, 2) := by decide +kernel
theorem dX0_open_14 : decode cX0_open 14 = .ok (.invokespecial 25, 3) := by decide +kernel
theorem dX0_open_17 : decode cX0_open 17 = .ok (.athrow, 1) := by decide +kernel
theorem dX0_open_18 : decode cX0_open 18 = .ok (.aload_n 0, 1) := by decide +kernel
theorem dX0_open_19 : decode cX0_open 19 = .ok (.iload_n 1, 1) := by decide +kernel
theorem dX0_open_20 : decode cX0_open 20 = .ok (.putfield 85, 3) := by decide +kernel
theorem dX0_open_23 : decode cX0_open 23 = .ok (.aload_n 0, 1) := by decide +kernel
theorem dX0_open_24 : decode cX0_open 24 = .ok (.iconst 0, 1) := by decide +kernel
theorem dX0_open_25 : decode cX0_open 25 = .ok (.putfield 88, 3) := by decide +kernel
theorem dX0_open_28 : decode cX0_open 28 = .ok (.aload_n 0, 1) := by decide +kernel
theorem dX0_open_29 : decode cX0_open 29 = .ok (.iload_n 1, 1) := by decide +kernel
theorem dX0_open_30 : decode cX0_open 30 = .ok (.invokevirtual 91, 3) := by decide +kernel
theorem dX0_open_33 : decode cX0_open 33 = .ok (.ireturn, 1) := by decide +kernel
theorem dX0_next_0 : decode cX0_next 0 = .ok (.aload_n 0, 1) := by decide +kernel
theorem dX0_next_1 : decode cX0_next 1 = .ok (.getfield 85, 3) := by decide +kernel
theorem dX0_next_4 : decode cX0_next 4 = .ok (.iconst (-1), 1) := by decide +kernel
theorem dX0_next_5 : decode cX0_next 5 = .ok (.if_icmp .ne 13, 3) := by decide +kernel
theorem dX0_next_8 : decode cX0_next 8 = .ok (.new 68, 3) := by decide +kernel
theorem dX0_next_11 : decode cX0_next 11 = .ok (.dup, 1) := by decide +kernel
theorem dX0_next_12 : decode cX0_next 12 = .ok (.ldc 94, 2) := by decide +kernel
theorem dX0_next_14 : decode cX0_next 14 = .ok (.invokespecial 72, 3) := by decide +kernel
theorem dX0_next_17 : decode cX0_next 17 = .ok (.athrow, 1) := by decide +kernel
theorem dX0_next_18 : decode cX0_next 18 = .ok (.aload_n 0, 1) := by decide +kernel
theorem dX0_next_19 : decode cX0_next 19 = .ok (.aload_n 0, 1) := by decide +kernel
theorem dX0_next_20 : decode cX0_next 20 = .ok (.getfield 85, 3) := by decide +kernel
theorem dX0_next_23 : decode cX0_next 23 = .ok (.aload_n 0, 1) := by decide +kernel
theorem dX0_next_24 : decode cX0_next 24 = .ok (.getfield 88, 3) := by decide +kernel
theorem dX0_next_27 : decode cX0_next 27 = .ok (.invokevirtual 96, 3) := by decide +kernel
theorem dX0_next_30 : decode cX0_next 30 = .ok (.istore_n 1, 1) := by decide +kernel
theorem dX0_next_31 : decode cX0_next 31 = .ok (.aload_n 0, 1) := by decide +kernel
theorem dX0_next_32 : decode cX0_next 32 = .ok (.iload_n 1, 1) := by decide +kernel
theorem dX0_next_33 : decode cX0_next 33 = .ok (.iconst (-1), 1) := by decide +kernel
theorem dX0_next_34 : decode cX0_next 34 = .ok (.if_icmp .ne 10, 3) := by decide +kernel
theorem dX0_next_37 : decode cX0_next 37 = .ok (.aload_n 0, 1) := by decide +kernel
theorem dX0_next_38 : decode cX0_next 38 = .ok (.getfield 59, 3) := by decide +kernel
theorem dX0_next_41 : decode cX0_next 41 = .ok (.goto 6, 3) := by decide +kernel
theorem dX0_next_44 : decode cX0_next 44 = .ok (.iload_n 1, 1) := by decide +kernel
theorem dX0_next_45 : decode cX0_next 45 = .ok (.iconst 1, 1) := by decide +kernel
theorem dX0_next_46 : decode cX0_next 46 = .ok (.iadd, 1) := by decide +kernel
theorem dX0_next_47 : decode cX0_next 47 = .ok (.putfield 88, 3) := by decide +kernel
theorem dX0_next_50 : decode cX0_next 50 = .ok (.iload_n 1, 1) := by decide +kernel
theorem dX0_next_51 : decode cX0_next 51 = .ok (.ireturn, 1) := by decide +kernel
theorem dX0_item_0 : decode cX0_item 0 = .ok (.iload_n 1, 1) := by decide +kernel
theorem dX0_item_1 : decode cX0_item 1 = .ok (.ifCond .lt 11, 3) := by decide +kernel
theorem dX0_item_4 : decode cX0_item 4 = .ok (.iload_n 1, 1) := by decide +kernel
theorem dX0_item_5 : decode cX0_item 5 = .ok (.aload_n 0, 1) := by decide +kernel
theorem dX0_item_6 : decode cX0_item 6 = .ok (.getfield 59, 3) := by decide +kernel
theorem dX0_item_9 : decode cX0_item 9 = .ok (.if_icmp .lt 13, 3) := by decide +kernel
theorem dX0_item_12 : decode cX0_item 12 = .ok (.new 99, 3) := by decide +kernel
theorem dX0_item_15 : decode cX0_item 15 = .ok (.dup, 1) := by decide +kernel
theorem dX0_item_16 : decode cX0_item 16 = .ok (.ldc 101, 2) := by decide +kernel
theorem dX0_item_18 : decode cX0_item 18 = .ok (.invokespecial 103, 3) := by decide +kernel
theorem dX0_item_21 : decode cX0_item 21 = .ok (.athrow, 1) := by decide +kernel
theorem dX0_item_22 : decode cX0_item 22 = .ok (.iload_n 2, 1) := by decide +kernel
theorem dX0_item_23 : decode cX0_item 23 = .ok (.ifCond .lt 9, 3) := by decide +kernel
theorem dX0_item_26 : decode cX0_item 26 = .ok (.iload_n 2, 1) := by decide +kernel
theorem dX0_item_27 : decode cX0_item 27 = .ok (.bipush 6, 2) := by decide +kernel
theorem dX0_item_29 : decode cX0_item 29 = .ok (.if_icmp .lt 13, 3) := by decide +kernel
theorem dX0_item_32 : decode cX0_item 32 = .ok (.new 21, 3) := by decide +kernel
theorem dX0_item_35 : decode cX0_item 35 = .ok (.dup, 1) := by decide +kernel
theorem dX0_item_36 : decode cX0_item 36 = .ok (.ldc 104, 2) := by decide +kernel
theorem dX0_item_38 : decode cX0_item 38 = .ok (.invokespecial 25, 3) := by decide +kernel
theorem dX0_item_41 : decode cX0_item 41 = .ok (.athrow, 1) := by decide +kernel
theorem dX0_item_42 : decode cX0_item 42 = .ok (.aload_n 0, 1) := by decide +kernel
theorem dX0_item_43 : decode cX0_item 43 = .ok (.getfield 9, 3) := by decide +kernel
theorem dX0_item_46 : decode cX0_item 46 = .ok (.iload_n 1, 1) := by decide +kernel
theorem dX0_item_47 : decode cX0_item 47 = .ok (.bipush 6, 2) := by decide +kernel
theorem dX0_item_49 : decode cX0_item 49 = .ok (.imul, 1) := by decide +kernel
theorem dX0_item_50 : decode cX0_item 50 = .ok (.iload_n 2, 1) := by decide +kernel
theorem dX0_item_51 : decode cX0_item 51 = .ok (.iadd, 1) := by decide +kernel
theorem dX0_item_52 : decode cX0_item 52 = .ok (.iaload, 1) := by decide +kernel
theorem dX0_item_53 : decode cX0_item 53 = .ok (.ireturn, 1) := by decide +kernel
theorem dX0_tile_0 : decode cX0_tile 0 = .ok (.aload_n 0, 1) := by decide +kernel
theorem dX0_tile_1 : decode cX0_tile 1 = .ok (.iload_n 1, 1) := by decide +kernel
theorem dX0_tile_2 : decode cX0_tile 2 = .ok (.invokevirtual 79, 3) := by decide +kernel
theorem dX0_tile_5 : decode cX0_tile 5 = .ok (.ifCond .ne 13, 3) := by decide +kernel
theorem dX0_tile_8 : decode cX0_tile 8 = .ok (.new 21, 3) := by decide +kernel
theorem dX0_tile_11 : decode cX0_tile 11 = .ok (.dup, 1) := by decide +kernel
theorem dX0_tile_12 : decode cX0_tile 12 = .ok (.ldc 83, 2) := by decide +kernel
theorem dX0_tile_14 : decode cX0_tile 14 = .ok (.invokespecial 25, 3) := by decide +kernel
theorem dX0_tile_17 : decode cX0_tile 17 = .ok (.athrow, 1) := by decide +kernel
theorem dX0_tile_18 : decode cX0_tile 18 = .ok (.iload_n 2, 1) := by decide +kernel
theorem dX0_tile_19 : decode cX0_tile 19 = .ok (.tableswitch 87 0 4 #[33, 39, 45, 63, 81], 33) := by decide +kernel
theorem dX0_tile_52 : decode cX0_tile 52 = .ok (.aload_n 0, 1) := by decide +kernel
theorem dX0_tile_53 : decode cX0_tile 53 = .ok (.iload_n 1, 1) := by decide +kernel
theorem dX0_tile_54 : decode cX0_tile 54 = .ok (.invokevirtual 106, 3) := by decide +kernel
theorem dX0_tile_57 : decode cX0_tile 57 = .ok (.ireturn, 1) := by decide +kernel
theorem dX0_tile_58 : decode cX0_tile 58 = .ok (.aload_n 0, 1) := by decide +kernel
theorem dX0_tile_59 : decode cX0_tile 59 = .ok (.iload_n 1, 1) := by decide +kernel
theorem dX0_tile_60 : decode cX0_tile 60 = .ok (.invokevirtual 109, 3) := by decide +kernel
theorem dX0_tile_63 : decode cX0_tile 63 = .ok (.ireturn, 1) := by decide +kernel
theorem dX0_tile_64 : decode cX0_tile 64 = .ok (.aload_n 0, 1) := by decide +kernel
theorem dX0_tile_65 : decode cX0_tile 65 = .ok (.iload_n 1, 1) := by decide +kernel
theorem dX0_tile_66 : decode cX0_tile 66 = .ok (.invokevirtual 106, 3) := by decide +kernel
theorem dX0_tile_69 : decode cX0_tile 69 = .ok (.aload_n 0, 1) := by decide +kernel
theorem dX0_tile_70 : decode cX0_tile 70 = .ok (.invokevirtual 112, 3) := by decide +kernel
theorem dX0_tile_73 : decode cX0_tile 73 = .ok (.iadd, 1) := by decide +kernel
theorem dX0_tile_74 : decode cX0_tile 74 = .ok (.aload_n 0, 1) := by decide +kernel
theorem dX0_tile_75 : decode cX0_tile 75 = .ok (.getfield 46, 3) := by decide +kernel
theorem dX0_tile_78 : decode cX0_tile 78 = .ok (.invokestatic 50, 3) := by decide +kernel
theorem dX0_tile_81 : decode cX0_tile 81 = .ok (.ireturn, 1) := by decide +kernel
theorem dX0_tile_82 : decode cX0_tile 82 = .ok (.aload_n 0, 1) := by decide +kernel
theorem dX0_tile_83 : decode cX0_tile 83 = .ok (.iload_n 1, 1) := by decide +kernel
theorem dX0_tile_84 : decode cX0_tile 84 = .ok (.invokevirtual 109, 3) := by decide +kernel
theorem dX0_tile_87 : decode cX0_tile 87 = .ok (.aload_n 0, 1) := by decide +kernel
theorem dX0_tile_88 : decode cX0_tile 88 = .ok (.invokevirtual 112, 3) := by decide +kernel
theorem dX0_tile_91 : decode cX0_tile 91 = .ok (.iadd, 1) := by decide +kernel
theorem dX0_tile_92 : decode cX0_tile 92 = .ok (.aload_n 0, 1) := by decide +kernel
theorem dX0_tile_93 : decode cX0_tile 93 = .ok (.getfield 53, 3) := by decide +kernel
theorem dX0_tile_96 : decode cX0_tile 96 = .ok (.invokestatic 50, 3) := by decide +kernel
theorem dX0_tile_99 : decode cX0_tile 99 = .ok (.ireturn, 1) := by decide +kernel
theorem dX0_tile_100 : decode cX0_tile 100 = .ok (.aload_n 0, 1) := by decide +kernel
theorem dX0_tile_101 : decode cX0_tile 101 = .ok (.iload_n 1, 1) := by decide +kernel
theorem dX0_tile_102 : decode cX0_tile 102 = .ok (.invokevirtual 91, 3) := by decide +kernel
theorem dX0_tile_105 : decode cX0_tile 105 = .ok (.ireturn, 1) := by decide +kernel
theorem dX0_tile_106 : decode cX0_tile 106 = .ok (.new 21, 3) := by decide +kernel
theorem dX0_tile_109 : decode cX0_tile 109 = .ok (.dup, 1) := by decide +kernel
theorem dX0_tile_110 : decode cX0_tile 110 = .ok (.ldc 115, 2) := by decide +kernel
theorem dX0_tile_112 : decode cX0_tile 112 = .ok (.invokespecial 25, 3) := by decide +kernel
theorem dX0_tile_115 : decode cX0_tile 115 = .ok (.athrow, 1) := by decide +kernel
theorem dX0_tileOf_0 : decode cX0_tileOf 0 = .ok (.iload_n 1, 1) := by decide +kernel
theorem dX0_tileOf_1 : decode cX0_tileOf 1 = .ok (.ifCond .lt 23, 3) := by decide +kernel
theorem dX0_tileOf_4 : decode cX0_tileOf 4 = .ok (.iload_n 1, 1) := by decide +kernel
theorem dX0_tileOf_5 : decode cX0_tileOf 5 = .ok (.aload_n 0, 1) := by decide +kernel
theorem dX0_tileOf_6 : decode cX0_tileOf 6 = .ok (.getfield 46, 3) := by decide +kernel
theorem dX0_tileOf_9 : decode cX0_tileOf 9 = .ok (.if_icmp .ge 15, 3) := by decide +kernel
theorem dX0_tileOf_12 : decode cX0_tileOf 12 = .ok (.iload_n 2, 1) := by decide +kernel
theorem dX0_tileOf_13 : decode cX0_tileOf 13 = .ok (.ifCond .lt 11, 3) := by decide +kernel
theorem dX0_tileOf_16 : decode cX0_tileOf 16 = .ok (.iload_n 2, 1) := by decide +kernel
theorem dX0_tileOf_17 : decode cX0_tileOf 17 = .ok (.aload_n 0, 1) := by decide +kernel
theorem dX0_tileOf_18 : decode cX0_tileOf 18 = .ok (.getfield 53, 3) := by decide +kernel
theorem dX0_tileOf_21 : decode cX0_tileOf 21 = .ok (.if_icmp .lt 13, 3) := by decide +kernel
theorem dX0_tileOf_24 : decode cX0_tileOf 24 = .ok (.new 21, 3) := by decide +kernel
theorem dX0_tileOf_27 : decode cX0_tileOf 27 = .ok (.dup, 1) := by decide +kernel
theorem dX0_tileOf_28 : decode cX0_tileOf 28 = .ok (.ldc 117, 2) := by decide +kernel
theorem dX0_tileOf_30 : decode cX0_tileOf 30 = .ok (.invokespecial 25, 3) := by decide +kernel
theorem dX0_tileOf_33 : decode cX0_tileOf 33 = .ok (.athrow, 1) := by decide +kernel
theorem dX0_tileOf_34 : decode cX0_tileOf 34 = .ok (.iload_n 2, 1) := by decide +kernel
theorem dX0_tileOf_35 : decode cX0_tileOf 35 = .ok (.aload_n 0, 1) := by decide +kernel
theorem dX0_tileOf_36 : decode cX0_tileOf 36 = .ok (.getfield 119, 3) := by decide +kernel
theorem dX0_tileOf_39 : decode cX0_tileOf 39 = .ok (.ishr, 1) := by decide +kernel
theorem dX0_tileOf_40 : decode cX0_tileOf 40 = .ok (.aload_n 0, 1) := by decide +kernel
theorem dX0_tileOf_41 : decode cX0_tileOf 41 = .ok (.getfield 122, 3) := by decide +kernel
theorem dX0_tileOf_44 : decode cX0_tileOf 44 = .ok (.imul, 1) := by decide +kernel
theorem dX0_tileOf_45 : decode cX0_tileOf 45 = .ok (.iload_n 1, 1) := by decide +kernel
theorem dX0_tileOf_46 : decode cX0_tileOf 46 = .ok (.aload_n 0, 1) := by decide +kernel
theorem dX0_tileOf_47 : decode cX0_tileOf 47 = .ok (.getfield 119, 3) := by decide +kernel
theorem dX0_tileOf_50 : decode cX0_tileOf 50 = .ok (.ishr, 1) := by decide +kernel
theorem dX0_tileOf_51 : decode cX0_tileOf 51 = .ok (.iadd, 1) := by decide +kernel
theorem dX0_tileOf_52 : decode cX0_tileOf 52 = .ok (.ireturn, 1) := by decide +kernel
theorem dX0_count_0 : decode cX0_count 0 = .ok (.iload_n 1, 1) := by decide +kernel
theorem dX0_count_1 : decode cX0_count 1 = .ok (.tableswitch 60 0 4 #[35, 40, 45, 50, 55], 35) := by decide +kernel
theorem dX0_count_36 : decode cX0_count 36 = .ok (.aload_n 0, 1) := by decide +kernel
theorem dX0_count_37 : decode cX0_count 37 = .ok (.getfield 59, 3) := by decide +kernel
theorem dX0_count_40 : decode cX0_count 40 = .ok (.ireturn, 1) := by decide +kernel
theorem dX0_count_41 : decode cX0_count 41 = .ok (.aload_n 0, 1) := by decide +kernel
theorem dX0_count_42 : decode cX0_count 42 = .ok (.getfield 65, 3) := by decide +kernel
theorem dX0_count_45 : decode cX0_count 45 = .ok (.ireturn, 1) := by decide +kernel
theorem dX0_count_46 : decode cX0_count 46 = .ok (.aload_n 0, 1) := by decide +kernel
theorem dX0_count_47 : decode cX0_count 47 = .ok (.getfield 62, 3) := by decide +kernel
theorem dX0_count_50 : decode cX0_count 50 = .ok (.ireturn, 1) := by decide +kernel
theorem dX0_count_51 : decode cX0_count 51 = .ok (.aload_n 0, 1) := by decide +kernel
theorem dX0_count_52 : decode cX0_count 52 = .ok (.invokevirtual 36, 3) := by decide +kernel
theorem dX0_count_55 : decode cX0_count 55 = .ok (.ireturn, 1) := by decide +kernel
theorem dX0_count_56 : decode cX0_count 56 = .ok (.aload_n 0, 1) := by decide +kernel
theorem dX0_count_57 : decode cX0_count 57 = .ok (.getfield 85, 3) := by decide +kernel
theorem dX0_count_60 : decode cX0_count 60 = .ok (.ireturn, 1) := by decide +kernel
theorem dX0_count_61 : decode cX0_count 61 = .ok (.new 21, 3) := by decide +kernel
theorem dX0_count_64 : decode cX0_count 64 = .ok (.dup, 1) := by decide +kernel
theorem dX0_count_65 : decode cX0_count 65 = .ok (.ldc 125, 2) := by decide +kernel
theorem dX0_count_67 : decode cX0_count 67 = .ok (.invokespecial 25, 3) := by decide +kernel
theorem dX0_count_70 : decode cX0_count 70 = .ok (.athrow, 1) := by decide +kernel
theorem dX0_layOut_0 : decode cX0_layOut 0 = .ok (.aload_n 0, 1) := by decide +kernel
theorem dX0_layOut_1 : decode cX0_layOut 1 = .ok (.iload_n 1, 1) := by decide +kernel
theorem dX0_layOut_2 : decode cX0_layOut 2 = .ok (.putfield 46, 3) := by decide +kernel
theorem dX0_layOut_5 : decode cX0_layOut 5 = .ok (.aload_n 0, 1) := by decide +kernel
theorem dX0_layOut_6 : decode cX0_layOut 6 = .ok (.iload_n 2, 1) := by decide +kernel
theorem dX0_layOut_7 : decode cX0_layOut 7 = .ok (.putfield 53, 3) := by decide +kernel
theorem dX0_layOut_10 : decode cX0_layOut 10 = .ok (.aload_n 0, 1) := by decide +kernel
theorem dX0_layOut_11 : decode cX0_layOut 11 = .ok (.iload_n 3, 1) := by decide +kernel
theorem dX0_layOut_12 : decode cX0_layOut 12 = .ok (.putfield 119, 3) := by decide +kernel
theorem dX0_layOut_15 : decode cX0_layOut 15 = .ok (.aload_n 0, 1) := by decide +kernel
theorem dX0_layOut_16 : decode cX0_layOut 16 = .ok (.aload_n 0, 1) := by decide +kernel
theorem dX0_layOut_17 : decode cX0_layOut 17 = .ok (.iconst 0, 1) := by decide +kernel
theorem dX0_layOut_18 : decode cX0_layOut 18 = .ok (.iload_n 1, 1) := by decide +kernel
theorem dX0_layOut_19 : decode cX0_layOut 19 = .ok (.invokevirtual 56, 3) := by decide +kernel
theorem dX0_layOut_22 : decode cX0_layOut 22 = .ok (.putfield 122, 3) := by decide +kernel
theorem dX0_layOut_25 : decode cX0_layOut 25 = .ok (.aload_n 0, 1) := by decide +kernel
theorem dX0_layOut_26 : decode cX0_layOut 26 = .ok (.aload_n 0, 1) := by decide +kernel
theorem dX0_layOut_27 : decode cX0_layOut 27 = .ok (.iconst 0, 1) := by decide +kernel
theorem dX0_layOut_28 : decode cX0_layOut 28 = .ok (.iload_n 2, 1) := by decide +kernel
theorem dX0_layOut_29 : decode cX0_layOut 29 = .ok (.invokevirtual 56, 3) := by decide +kernel
theorem dX0_layOut_32 : decode cX0_layOut 32 = .ok (.putfield 127, 3) := by decide +kernel
theorem dX0_layOut_35 : decode cX0_layOut 35 = .ok (.aload_n 0, 1) := by decide +kernel
theorem dX0_layOut_36 : decode cX0_layOut 36 = .ok (.iload 4, 2) := by decide +kernel
theorem dX0_layOut_38 : decode cX0_layOut 38 = .ok (.putfield 62, 3) := by decide +kernel
theorem dX0_layOut_41 : decode cX0_layOut 41 = .ok (.aload_n 0, 1) := by decide +kernel
theorem dX0_layOut_42 : decode cX0_layOut 42 = .ok (.invokevirtual 76, 3) := by decide +kernel
theorem dX0_layOut_45 : decode cX0_layOut 45 = .ok (.return_, 1) := by decide +kernel
theorem dX0_takeAllOut_0 : decode cX0_takeAllOut 0 = .ok (.aload_n 0, 1) := by decide +kernel
theorem dX0_takeAllOut_1 : decode cX0_takeAllOut 1 = .ok (.iconst 0, 1) := by decide +kernel
theorem dX0_takeAllOut_2 : decode cX0_takeAllOut 2 = .ok (.putfield 59, 3) := by decide +kernel
theorem dX0_takeAllOut_5 : decode cX0_takeAllOut 5 = .ok (.aload_n 0, 1) := by decide +kernel
theorem dX0_takeAllOut_6 : decode cX0_takeAllOut 6 = .ok (.iconst 0, 1) := by decide +kernel
theorem dX0_takeAllOut_7 : decode cX0_takeAllOut 7 = .ok (.putfield 65, 3) := by decide +kernel
theorem dX0_takeAllOut_10 : decode cX0_takeAllOut 10 = .ok (.aload_n 0, 1) := by decide +kernel
theorem dX0_takeAllOut_11 : decode cX0_takeAllOut 11 = .ok (.iconst (-1), 1) := by decide +kernel
theorem dX0_takeAllOut_12 : decode cX0_takeAllOut 12 = .ok (.putfield 85, 3) := by decide +kernel
theorem dX0_takeAllOut_15 : decode cX0_takeAllOut 15 = .ok (.aload_n 0, 1) := by decide +kernel
theorem dX0_takeAllOut_16 : decode cX0_takeAllOut 16 = .ok (.iconst 0, 1) := by decide +kernel
theorem dX0_takeAllOut_17 : decode cX0_takeAllOut 17 = .ok (.putfield 88, 3) := by decide +kernel
theorem dX0_takeAllOut_20 : decode cX0_takeAllOut 20 = .ok (.return_, 1) := by decide +kernel
theorem dX0_makeRoom_0 : decode cX0_makeRoom 0 = .ok (.aload_n 0, 1) := by decide +kernel
theorem dX0_makeRoom_1 : decode cX0_makeRoom 1 = .ok (.getfield 59, 3) := by decide +kernel
theorem dX0_makeRoom_4 : decode cX0_makeRoom 4 = .ok (.iconst 1, 1) := by decide +kernel
theorem dX0_makeRoom_5 : decode cX0_makeRoom 5 = .ok (.iadd, 1) := by decide +kernel
theorem dX0_makeRoom_6 : decode cX0_makeRoom 6 = .ok (.bipush 6, 2) := by decide +kernel
theorem dX0_makeRoom_8 : decode cX0_makeRoom 8 = .ok (.imul, 1) := by decide +kernel
theorem dX0_makeRoom_9 : decode cX0_makeRoom 9 = .ok (.aload_n 0, 1) := by decide +kernel
theorem dX0_makeRoom_10 : decode cX0_makeRoom 10 = .ok (.getfield 9, 3) := by decide +kernel
theorem dX0_makeRoom_13 : decode cX0_makeRoom 13 = .ok (.arraylength, 1) := by decide +kernel
theorem dX0_makeRoom_14 : decode cX0_makeRoom 14 = .ok (.if_icmp .le 21, 3) := by decide +kernel
theorem dX0_makeRoom_17 : decode cX0_makeRoom 17 = .ok (.aload_n 0, 1) := by decide +kernel
theorem dX0_makeRoom_18 : decode cX0_makeRoom 18 = .ok (.aload_n 0, 1) := by decide +kernel
theorem dX0_makeRoom_19 : decode cX0_makeRoom 19 = .ok (.getfield 9, 3) := by decide +kernel
theorem dX0_makeRoom_22 : decode cX0_makeRoom 22 = .ok (.iconst 2, 1) := by decide +kernel
theorem dX0_makeRoom_23 : decode cX0_makeRoom 23 = .ok (.aload_n 0, 1) := by decide +kernel
theorem dX0_makeRoom_24 : decode cX0_makeRoom 24 = .ok (.getfield 9, 3) := by decide +kernel
theorem dX0_makeRoom_27 : decode cX0_makeRoom 27 = .ok (.arraylength, 1) := by decide +kernel
theorem dX0_makeRoom_28 : decode cX0_makeRoom 28 = .ok (.imul, 1) := by decide +kernel
theorem dX0_makeRoom_29 : decode cX0_makeRoom 29 = .ok (.invokestatic 130, 3) := by decide +kernel
theorem dX0_makeRoom_32 : decode cX0_makeRoom 32 = .ok (.putfield 9, 3) := by decide +kernel
theorem dX0_makeRoom_35 : decode cX0_makeRoom 35 = .ok (.return_, 1) := by decide +kernel
theorem dX0_tilesAcross_0 : decode cX0_tilesAcross 0 = .ok (.iload_n 2, 1) := by decide +kernel
theorem dX0_tilesAcross_1 : decode cX0_tilesAcross 1 = .ok (.iconst 1, 1) := by decide +kernel
theorem dX0_tilesAcross_2 : decode cX0_tilesAcross 2 = .ok (.isub, 1) := by decide +kernel
theorem dX0_tilesAcross_3 : decode cX0_tilesAcross 3 = .ok (.aload_n 0, 1) := by decide +kernel
theorem dX0_tilesAcross_4 : decode cX0_tilesAcross 4 = .ok (.getfield 119, 3) := by decide +kernel
theorem dX0_tilesAcross_7 : decode cX0_tilesAcross 7 = .ok (.ishr, 1) := by decide +kernel
theorem dX0_tilesAcross_8 : decode cX0_tilesAcross 8 = .ok (.iload_n 1, 1) := by decide +kernel
theorem dX0_tilesAcross_9 : decode cX0_tilesAcross 9 = .ok (.aload_n 0, 1) := by decide +kernel
theorem dX0_tilesAcross_10 : decode cX0_tilesAcross 10 = .ok (.getfield 119, 3) := by decide +kernel
theorem dX0_tilesAcross_13 : decode cX0_tilesAcross 13 = .ok (.ishr, 1) := by decide +kernel
theorem dX0_tilesAcross_14 : decode cX0_tilesAcross 14 = .ok (.isub, 1) := by decide +kernel
theorem dX0_tilesAcross_15 : decode cX0_tilesAcross 15 = .ok (.iconst 1, 1) := by decide +kernel
theorem dX0_tilesAcross_16 : decode cX0_tilesAcross 16 = .ok (.iadd, 1) := by decide +kernel
theorem dX0_tilesAcross_17 : decode cX0_tilesAcross 17 = .ok (.ireturn, 1) := by decide +kernel
theorem dX0_tilesInAll_0 : decode cX0_tilesInAll 0 = .ok (.aload_n 0, 1) := by decide +kernel
theorem dX0_tilesInAll_1 : decode cX0_tilesInAll 1 = .ok (.getfield 122, 3) := by decide +kernel
theorem dX0_tilesInAll_4 : decode cX0_tilesInAll 4 = .ok (.aload_n 0, 1) := by decide +kernel
theorem dX0_tilesInAll_5 : decode cX0_tilesInAll 5 = .ok (.getfield 127, 3) := by decide +kernel
theorem dX0_tilesInAll_8 : decode cX0_tilesInAll 8 = .ok (.imul, 1) := by decide +kernel
theorem dX0_tilesInAll_9 : decode cX0_tilesInAll 9 = .ok (.ireturn, 1) := by decide +kernel
theorem dX0_isTile_0 : decode cX0_isTile 0 = .ok (.iload_n 1, 1) := by decide +kernel
theorem dX0_isTile_1 : decode cX0_isTile 1 = .ok (.ifCond .lt 15, 3) := by decide +kernel
theorem dX0_isTile_4 : decode cX0_isTile 4 = .ok (.iload_n 1, 1) := by decide +kernel
theorem dX0_isTile_5 : decode cX0_isTile 5 = .ok (.aload_n 0, 1) := by decide +kernel
theorem dX0_isTile_6 : decode cX0_isTile 6 = .ok (.invokevirtual 36, 3) := by decide +kernel
theorem dX0_isTile_9 : decode cX0_isTile 9 = .ok (.if_icmp .ge 7, 3) := by decide +kernel
theorem dX0_isTile_12 : decode cX0_isTile 12 = .ok (.iconst 1, 1) := by decide +kernel
theorem dX0_isTile_13 : decode cX0_isTile 13 = .ok (.goto 4, 3) := by decide +kernel
theorem dX0_isTile_16 : decode cX0_isTile 16 = .ok (.iconst 0, 1) := by decide +kernel
theorem dX0_isTile_17 : decode cX0_isTile 17 = .ok (.ireturn, 1) := by decide +kernel
theorem dX0_sideLength_0 : decode cX0_sideLength 0 = .ok (.iconst 1, 1) := by decide +kernel
theorem dX0_sideLength_1 : decode cX0_sideLength 1 = .ok (.aload_n 0, 1) := by decide +kernel
theorem dX0_sideLength_2 : decode cX0_sideLength 2 = .ok (.getfield 119, 3) := by decide +kernel
theorem dX0_sideLength_5 : decode cX0_sideLength 5 = .ok (.ishl, 1) := by decide +kernel
theorem dX0_sideLength_6 : decode cX0_sideLength 6 = .ok (.ireturn, 1) := by decide +kernel
theorem dX0_leftOf_0 : decode cX0_leftOf 0 = .ok (.aload_n 0, 1) := by decide +kernel
theorem dX0_leftOf_1 : decode cX0_leftOf 1 = .ok (.getfield 122, 3) := by decide +kernel
theorem dX0_leftOf_4 : decode cX0_leftOf 4 = .ok (.ifCond .le 17, 3) := by decide +kernel
theorem dX0_leftOf_7 : decode cX0_leftOf 7 = .ok (.iload_n 1, 1) := by decide +kernel
theorem dX0_leftOf_8 : decode cX0_leftOf 8 = .ok (.aload_n 0, 1) := by decide +kernel
theorem dX0_leftOf_9 : decode cX0_leftOf 9 = .ok (.getfield 122, 3) := by decide +kernel
theorem dX0_leftOf_12 : decode cX0_leftOf 12 = .ok (.irem, 1) := by decide +kernel
theorem dX0_leftOf_13 : decode cX0_leftOf 13 = .ok (.aload_n 0, 1) := by decide +kernel
theorem dX0_leftOf_14 : decode cX0_leftOf 14 = .ok (.getfield 119, 3) := by decide +kernel
theorem dX0_leftOf_17 : decode cX0_leftOf 17 = .ok (.ishl, 1) := by decide +kernel
theorem dX0_leftOf_18 : decode cX0_leftOf 18 = .ok (.goto 4, 3) := by decide +kernel
theorem dX0_leftOf_21 : decode cX0_leftOf 21 = .ok (.iconst 0, 1) := by decide +kernel
theorem dX0_leftOf_22 : decode cX0_leftOf 22 = .ok (.ireturn, 1) := by decide +kernel
theorem dX0_topOf_0 : decode cX0_topOf 0 = .ok (.aload_n 0, 1) := by decide +kernel
theorem dX0_topOf_1 : decode cX0_topOf 1 = .ok (.getfield 122, 3) := by decide +kernel
theorem dX0_topOf_4 : decode cX0_topOf 4 = .ok (.ifCond .le 17, 3) := by decide +kernel
theorem dX0_topOf_7 : decode cX0_topOf 7 = .ok (.iload_n 1, 1) := by decide +kernel
theorem dX0_topOf_8 : decode cX0_topOf 8 = .ok (.aload_n 0, 1) := by decide +kernel
theorem dX0_topOf_9 : decode cX0_topOf 9 = .ok (.getfield 122, 3) := by decide +kernel
theorem dX0_topOf_12 : decode cX0_topOf 12 = .ok (.idiv, 1) := by decide +kernel
theorem dX0_topOf_13 : decode cX0_topOf 13 = .ok (.aload_n 0, 1) := by decide +kernel
theorem dX0_topOf_14 : decode cX0_topOf 14 = .ok (.getfield 119, 3) := by decide +kernel
theorem dX0_topOf_17 : decode cX0_topOf 17 = .ok (.ishl, 1) := by decide +kernel
theorem dX0_topOf_18 : decode cX0_topOf 18 = .ok (.goto 4, 3) := by decide +kernel
theorem dX0_topOf_21 : decode cX0_topOf 21 = .ok (.iconst 0, 1) := by decide +kernel
theorem dX0_topOf_22 : decode cX0_topOf 22 = .ok (.ireturn, 1) := by decide +kernel
theorem dX0_itemsTouching_0 : decode cX0_itemsTouching 0 = .ok (.aload_n 0, 1) := by decide +kernel
theorem dX0_itemsTouching_1 : decode cX0_itemsTouching 1 = .ok (.iload_n 1, 1) := by decide +kernel
theorem dX0_itemsTouching_2 : decode cX0_itemsTouching 2 = .ok (.invokevirtual 106, 3) := by decide +kernel
theorem dX0_itemsTouching_5 : decode cX0_itemsTouching 5 = .ok (.istore_n 2, 1) := by decide +kernel
theorem dX0_itemsTouching_6 : decode cX0_itemsTouching 6 = .ok (.aload_n 0, 1) := by decide +kernel
theorem dX0_itemsTouching_7 : decode cX0_itemsTouching 7 = .ok (.iload_n 1, 1) := by decide +kernel
theorem dX0_itemsTouching_8 : decode cX0_itemsTouching 8 = .ok (.invokevirtual 109, 3) := by decide +kernel
theorem dX0_itemsTouching_11 : decode cX0_itemsTouching 11 = .ok (.istore_n 3, 1) := by decide +kernel
theorem dX0_itemsTouching_12 : decode cX0_itemsTouching 12 = .ok (.iconst 0, 1) := by decide +kernel
theorem dX0_itemsTouching_13 : decode cX0_itemsTouching 13 = .ok (.istore 4, 2) := by decide +kernel
theorem dX0_itemsTouching_15 : decode cX0_itemsTouching 15 = .ok (.iconst 0, 1) := by decide +kernel
theorem dX0_itemsTouching_16 : decode cX0_itemsTouching 16 = .ok (.istore 5, 2) := by decide +kernel
theorem dX0_itemsTouching_18 : decode cX0_itemsTouching 18 = .ok (.iload 5, 2) := by decide +kernel
theorem dX0_itemsTouching_20 : decode cX0_itemsTouching 20 = .ok (.aload_n 0, 1) := by decide +kernel
theorem dX0_itemsTouching_21 : decode cX0_itemsTouching 21 = .ok (.getfield 59, 3) := by decide +kernel
theorem dX0_itemsTouching_24 : decode cX0_itemsTouching 24 = .ok (.if_icmp .ge 23, 3) := by decide +kernel
theorem dX0_itemsTouching_27 : decode cX0_itemsTouching 27 = .ok (.aload_n 0, 1) := by decide +kernel
theorem dX0_itemsTouching_28 : decode cX0_itemsTouching 28 = .ok (.iload 5, 2) := by decide +kernel
theorem dX0_itemsTouching_30 : decode cX0_itemsTouching 30 = .ok (.iload_n 2, 1) := by decide +kernel
theorem dX0_itemsTouching_31 : decode cX0_itemsTouching 31 = .ok (.iload_n 3, 1) := by decide +kernel
theorem dX0_itemsTouching_32 : decode cX0_itemsTouching 32 = .ok (.invokevirtual 136, 3) := by decide +kernel
theorem dX0_itemsTouching_35 : decode cX0_itemsTouching 35 = .ok (.ifCond .eq 6, 3) := by decide +kernel
theorem dX0_itemsTouching_38 : decode cX0_itemsTouching 38 = .ok (.iinc 4 1, 3) := by decide +kernel
theorem dX0_itemsTouching_41 : decode cX0_itemsTouching 41 = .ok (.iinc 5 1, 3) := by decide +kernel
theorem dX0_itemsTouching_44 : decode cX0_itemsTouching 44 = .ok (.goto (-26), 3) := by decide +kernel
theorem dX0_itemsTouching_47 : decode cX0_itemsTouching 47 = .ok (.iload 4, 2) := by decide +kernel
theorem dX0_itemsTouching_49 : decode cX0_itemsTouching 49 = .ok (.ireturn, 1) := by decide +kernel
theorem dX0_firstTouching_0 : decode cX0_firstTouching 0 = .ok (.aload_n 0, 1) := by decide +kernel
theorem dX0_firstTouching_1 : decode cX0_firstTouching 1 = .ok (.iload_n 1, 1) := by decide +kernel
theorem dX0_firstTouching_2 : decode cX0_firstTouching 2 = .ok (.invokevirtual 106, 3) := by decide +kernel
theorem dX0_firstTouching_5 : decode cX0_firstTouching 5 = .ok (.istore_n 3, 1) := by decide +kernel
theorem dX0_firstTouching_6 : decode cX0_firstTouching 6 = .ok (.aload_n 0, 1) := by decide +kernel
theorem dX0_firstTouching_7 : decode cX0_firstTouching 7 = .ok (.iload_n 1, 1) := by decide +kernel
theorem dX0_firstTouching_8 : decode cX0_firstTouching 8 = .ok (.invokevirtual 109, 3) := by decide +kernel
theorem dX0_firstTouching_11 : decode cX0_firstTouching 11 = .ok (.istore 4, 2) := by decide +kernel
theorem dX0_firstTouching_13 : decode cX0_firstTouching 13 = .ok (.iload_n 2, 1) := by decide +kernel
theorem dX0_firstTouching_14 : decode cX0_firstTouching 14 = .ok (.istore 5, 2) := by decide +kernel
theorem dX0_firstTouching_16 : decode cX0_firstTouching 16 = .ok (.iload 5, 2) := by decide +kernel
theorem dX0_firstTouching_18 : decode cX0_firstTouching 18 = .ok (.aload_n 0, 1) := by decide +kernel
theorem dX0_firstTouching_19 : decode cX0_firstTouching 19 = .ok (.getfield 59, 3) := by decide +kernel
theorem dX0_firstTouching_22 : decode cX0_firstTouching 22 = .ok (.if_icmp .ge 24, 3) := by decide +kernel
theorem dX0_firstTouching_25 : decode cX0_firstTouching 25 = .ok (.aload_n 0, 1) := by decide +kernel
theorem dX0_firstTouching_26 : decode cX0_firstTouching 26 = .ok (.iload 5, 2) := by decide +kernel
theorem dX0_firstTouching_28 : decode cX0_firstTouching 28 = .ok (.iload_n 3, 1) := by decide +kernel
theorem dX0_firstTouching_29 : decode cX0_firstTouching 29 = .ok (.iload 4, 2) := by decide +kernel
theorem dX0_firstTouching_31 : decode cX0_firstTouching 31 = .ok (.invokevirtual 136, 3) := by decide +kernel
theorem dX0_firstTouching_34 : decode cX0_firstTouching 34 = .ok (.ifCond .eq 6, 3) := by decide +kernel
theorem dX0_firstTouching_37 : decode cX0_firstTouching 37 = .ok (.iload 5, 2) := by decide +kernel
theorem dX0_firstTouching_39 : decode cX0_firstTouching 39 = .ok (.ireturn, 1) := by decide +kernel
theorem dX0_firstTouching_40 : decode cX0_firstTouching 40 = .ok (.iinc 5 1, 3) := by decide +kernel
theorem dX0_firstTouching_43 : decode cX0_firstTouching 43 = .ok (.goto (-27), 3) := by decide +kernel
theorem dX0_firstTouching_46 : decode cX0_firstTouching 46 = .ok (.iconst (-1), 1) := by decide +kernel
theorem dX0_firstTouching_47 : decode cX0_firstTouching 47 = .ok (.ireturn, 1) := by decide +kernel
theorem dX0_touches_0 : decode cX0_touches 0 = .ok (.iload_n 1, 1) := by decide +kernel
theorem dX0_touches_1 : decode cX0_touches 1 = .ok (.bipush 6, 2) := by decide +kernel
theorem dX0_touches_3 : decode cX0_touches 3 = .ok (.imul, 1) := by decide +kernel
theorem dX0_touches_4 : decode cX0_touches 4 = .ok (.istore 4, 2) := by decide +kernel
theorem dX0_touches_6 : decode cX0_touches 6 = .ok (.aload_n 0, 1) := by decide +kernel
theorem dX0_touches_7 : decode cX0_touches 7 = .ok (.getfield 9, 3) := by decide +kernel
theorem dX0_touches_10 : decode cX0_touches 10 = .ok (.iload 4, 2) := by decide +kernel
theorem dX0_touches_12 : decode cX0_touches 12 = .ok (.iconst 0, 1) := by decide +kernel
theorem dX0_touches_13 : decode cX0_touches 13 = .ok (.iadd, 1) := by decide +kernel
theorem dX0_touches_14 : decode cX0_touches 14 = .ok (.iaload, 1) := by decide +kernel
theorem dX0_touches_15 : decode cX0_touches 15 = .ok (.iload_n 2, 1) := by decide +kernel
theorem dX0_touches_16 : decode cX0_touches 16 = .ok (.aload_n 0, 1) := by decide +kernel
theorem dX0_touches_17 : decode cX0_touches 17 = .ok (.invokevirtual 112, 3) := by decide +kernel
theorem dX0_touches_20 : decode cX0_touches 20 = .ok (.iadd, 1) := by decide +kernel
theorem dX0_touches_21 : decode cX0_touches 21 = .ok (.if_icmp .ge 51, 3) := by decide +kernel
theorem dX0_touches_24 : decode cX0_touches 24 = .ok (.iload_n 2, 1) := by decide +kernel
theorem dX0_touches_25 : decode cX0_touches 25 = .ok (.aload_n 0, 1) := by decide +kernel
theorem dX0_touches_26 : decode cX0_touches 26 = .ok (.getfield 9, 3) := by decide +kernel
theorem dX0_touches_29 : decode cX0_touches 29 = .ok (.iload 4, 2) := by decide +kernel
theorem dX0_touches_31 : decode cX0_touches 31 = .ok (.iconst 2, 1) := by decide +kernel
theorem dX0_touches_32 : decode cX0_touches 32 = .ok (.iadd, 1) := by decide +kernel
theorem dX0_touches_33 : decode cX0_touches 33 = .ok (.iaload, 1) := by decide +kernel
theorem dX0_touches_34 : decode cX0_touches 34 = .ok (.if_icmp .ge 38, 3) := by decide +kernel
theorem dX0_touches_37 : decode cX0_touches 37 = .ok (.aload_n 0, 1) := by decide +kernel
theorem dX0_touches_38 : decode cX0_touches 38 = .ok (.getfield 9, 3) := by decide +kernel
theorem dX0_touches_41 : decode cX0_touches 41 = .ok (.iload 4, 2) := by decide +kernel
theorem dX0_touches_43 : decode cX0_touches 43 = .ok (.iconst 1, 1) := by decide +kernel
theorem dX0_touches_44 : decode cX0_touches 44 = .ok (.iadd, 1) := by decide +kernel
theorem dX0_touches_45 : decode cX0_touches 45 = .ok (.iaload, 1) := by decide +kernel
theorem dX0_touches_46 : decode cX0_touches 46 = .ok (.iload_n 3, 1) := by decide +kernel
theorem dX0_touches_47 : decode cX0_touches 47 = .ok (.aload_n 0, 1) := by decide +kernel
theorem dX0_touches_48 : decode cX0_touches 48 = .ok (.invokevirtual 112, 3) := by decide +kernel
theorem dX0_touches_51 : decode cX0_touches 51 = .ok (.iadd, 1) := by decide +kernel
theorem dX0_touches_52 : decode cX0_touches 52 = .ok (.if_icmp .ge 20, 3) := by decide +kernel
theorem dX0_touches_55 : decode cX0_touches 55 = .ok (.iload_n 3, 1) := by decide +kernel
theorem dX0_touches_56 : decode cX0_touches 56 = .ok (.aload_n 0, 1) := by decide +kernel
theorem dX0_touches_57 : decode cX0_touches 57 = .ok (.getfield 9, 3) := by decide +kernel
theorem dX0_touches_60 : decode cX0_touches 60 = .ok (.iload 4, 2) := by decide +kernel
theorem dX0_touches_62 : decode cX0_touches 62 = .ok (.iconst 3, 1) := by decide +kernel
theorem dX0_touches_63 : decode cX0_touches 63 = .ok (.iadd, 1) := by decide +kernel
theorem dX0_touches_64 : decode cX0_touches 64 = .ok (.iaload, 1) := by decide +kernel
theorem dX0_touches_65 : decode cX0_touches 65 = .ok (.if_icmp .ge 7, 3) := by decide +kernel
theorem dX0_touches_68 : decode cX0_touches 68 = .ok (.iconst 1, 1) := by decide +kernel
theorem dX0_touches_69 : decode cX0_touches 69 = .ok (.goto 4, 3) := by decide +kernel
theorem dX0_touches_72 : decode cX0_touches 72 = .ok (.iconst 0, 1) := by decide +kernel
theorem dX0_touches_73 : decode cX0_touches 73 = .ok (.ireturn, 1) := by decide +kernel
theorem dX0_isWithin_0 : decode cX0_isWithin 0 = .ok (.iload_n 0, 1) := by decide +kernel
theorem dX0_isWithin_1 : decode cX0_isWithin 1 = .ok (.iload_n 1, 1) := by decide +kernel
theorem dX0_isWithin_2 : decode cX0_isWithin 2 = .ok (.if_icmp .lt 12, 3) := by decide +kernel
theorem dX0_isWithin_5 : decode cX0_isWithin 5 = .ok (.iload_n 0, 1) := by decide +kernel
theorem dX0_isWithin_6 : decode cX0_isWithin 6 = .ok (.iload_n 2, 1) := by decide +kernel
theorem dX0_isWithin_7 : decode cX0_isWithin 7 = .ok (.if_icmp .gt 7, 3) := by decide +kernel
theorem dX0_isWithin_10 : decode cX0_isWithin 10 = .ok (.iconst 1, 1) := by decide +kernel
theorem dX0_isWithin_11 : decode cX0_isWithin 11 = .ok (.goto 4, 3) := by decide +kernel
theorem dX0_isWithin_14 : decode cX0_isWithin 14 = .ok (.iconst 0, 1) := by decide +kernel
theorem dX0_isWithin_15 : decode cX0_isWithin 15 = .ok (.ireturn, 1) := by decide +kernel
theorem dX0_powerOf_0 : decode cX0_powerOf 0 = .ok (.iload_n 0, 1) := by decide +kernel
theorem dX0_powerOf_1 : decode cX0_powerOf 1 = .ok (.lookupswitch 52 #[(8, 43), (16, 45), (32, 47), (64, 49)], 43) := by decide +kernel
theorem dX0_powerOf_44 : decode cX0_powerOf 44 = .ok (.iconst 3, 1) := by decide +kernel
theorem dX0_powerOf_45 : decode cX0_powerOf 45 = .ok (.ireturn, 1) := by decide +kernel
theorem dX0_powerOf_46 : decode cX0_powerOf 46 = .ok (.iconst 4, 1) := by decide +kernel
theorem dX0_powerOf_47 : decode cX0_powerOf 47 = .ok (.ireturn, 1) := by decide +kernel
theorem dX0_powerOf_48 : decode cX0_powerOf 48 = .ok (.iconst 5, 1) := by decide +kernel
theorem dX0_powerOf_49 : decode cX0_powerOf 49 = .ok (.ireturn, 1) := by decide +kernel
theorem dX0_powerOf_50 : decode cX0_powerOf 50 = .ok (.bipush 6, 2) := by decide +kernel
theorem dX0_powerOf_52 : decode cX0_powerOf 52 = .ok (.ireturn, 1) := by decide +kernel
theorem dX0_powerOf_53 : decode cX0_powerOf 53 = .ok (.iconst (-1), 1) := by decide +kernel
theorem dX0_powerOf_54 : decode cX0_powerOf 54 = .ok (.ireturn, 1) := by decide +kernel
theorem dJ7_copyOf_0 : decode cJ7_copyOf 0 = .ok (.iload_n 1, 1) := by decide +kernel
theorem dJ7_copyOf_1 : decode cJ7_copyOf 1 = .ok (.aload_n 0, 1) := by decide +kernel
theorem dJ7_copyOf_2 : decode cJ7_copyOf 2 = .ok (.arraylength, 1) := by decide +kernel
theorem dJ7_copyOf_3 : decode cJ7_copyOf 3 = .ok (.if_icmp .ne 11, 3) := by decide +kernel
theorem dJ7_copyOf_6 : decode cJ7_copyOf 6 = .ok (.aload_n 0, 1) := by decide +kernel
theorem dJ7_copyOf_7 : decode cJ7_copyOf 7 = .ok (.invokevirtual 316, 3) := by decide +kernel
theorem dJ7_copyOf_10 : decode cJ7_copyOf 10 = .ok (.checkcast 317, 3) := by decide +kernel
theorem dJ7_copyOf_13 : decode cJ7_copyOf 13 = .ok (.areturn, 1) := by decide +kernel
theorem dJ7_copyOf_14 : decode cJ7_copyOf 14 = .ok (.iload_n 1, 1) := by decide +kernel
theorem dJ7_copyOf_15 : decode cJ7_copyOf 15 = .ok (.newarray .int, 2) := by decide +kernel
theorem dJ7_copyOf_17 : decode cJ7_copyOf 17 = .ok (.astore_n 2, 1) := by decide +kernel
theorem dJ7_copyOf_18 : decode cJ7_copyOf 18 = .ok (.aload_n 0, 1) := by decide +kernel
theorem dJ7_copyOf_19 : decode cJ7_copyOf 19 = .ok (.iconst 0, 1) := by decide +kernel
theorem dJ7_copyOf_20 : decode cJ7_copyOf 20 = .ok (.aload_n 2, 1) := by decide +kernel
theorem dJ7_copyOf_21 : decode cJ7_copyOf 21 = .ok (.iconst 0, 1) := by decide +kernel
theorem dJ7_copyOf_22 : decode cJ7_copyOf 22 = .ok (.aload_n 0, 1) := by decide +kernel
theorem dJ7_copyOf_23 : decode cJ7_copyOf 23 = .ok (.arraylength, 1) := by decide +kernel
theorem dJ7_copyOf_24 : decode cJ7_copyOf 24 = .ok (.iload_n 1, 1) := by decide +kernel
theorem dJ7_copyOf_25 : decode cJ7_copyOf 25 = .ok (.invokestatic 304, 3) := by decide +kernel
theorem dJ7_copyOf_28 : decode cJ7_copyOf 28 = .ok (.invokestatic 150, 3) := by decide +kernel
theorem dJ7_copyOf_31 : decode cJ7_copyOf 31 = .ok (.aload_n 2, 1) := by decide +kernel
theorem dJ7_copyOf_32 : decode cJ7_copyOf 32 = .ok (.areturn, 1) := by decide +kernel
end
section
abbrev wsX1_init : List Cond := Cond.code yX1_init cX1_init 1 none :: gb
abbrev wsX1_thrown : List Cond := Cond.code yX1_thrown cX1_thrown 1 (some .int) :: gb
abbrev wsX1_refuse : List Cond := Cond.code yX1_refuse cX1_refuse 3 (some .boolean) :: gb
abbrev wsX1_in : List Cond := Cond.code yX1_in cX1_in 3 (some .boolean) :: gb
abbrev wsX1_across : List Cond := Cond.code yX1_across cX1_across 1 (some .int) :: gb
abbrev wsX1_tiles : List Cond := Cond.code yX1_tiles cX1_tiles 1 (some .int) :: gb
abbrev wsX1_isTile : List Cond := Cond.code yX1_isTile cX1_isTile 2 (some .boolean) :: gb
abbrev wsX1_field : List Cond := Cond.code yX1_field cX1_field 6 (some .int) :: gb
abbrev wsX1_least : List Cond := Cond.code yX1_least cX1_least 2 (some .int) :: gb
abbrev wsX1_greatest : List Cond := Cond.code yX1_greatest cX1_greatest 2 (some .int) :: gb
abbrev wsX1_edge : List Cond := Cond.code yX1_edge cX1_edge 5 (some .int) :: gb
abbrev wsX1_isEmpty : List Cond := Cond.code yX1_isEmpty cX1_isEmpty 4 (some .boolean) :: gb
abbrev wsX1_touches : List Cond := Cond.code yX1_touches cX1_touches 3 (some .boolean) :: gb
abbrev wsX1_tilesOf : List Cond := Cond.code yX1_tilesOf cX1_tilesOf 4 (some .int) :: gb
abbrev wsX1_put : List Cond := Cond.code yX1_put cX1_put 8 (some .int) :: gb
abbrev wsX1_empty : List Cond := Cond.code yX1_empty cX1_empty 1 none :: gb
abbrev wsX1_manyOf : List Cond := Cond.code yX1_manyOf cX1_manyOf 4 (some .int) :: gb
abbrev wsX1_open : List Cond := Cond.code yX1_open cX1_open 2 (some .int) :: gb
abbrev wsX1_next : List Cond := Cond.code yX1_next cX1_next 1 (some .int) :: gb
abbrev wsX1_item : List Cond := Cond.code yX1_item cX1_item 3 (some .int) :: gb
abbrev wsX1_tile : List Cond := Cond.code yX1_tile cX1_tile 3 (some .int) :: gb
abbrev wsX1_tileOf : List Cond := Cond.code yX1_tileOf cX1_tileOf 4 (some .int) :: gb
abbrev wsX1_count : List Cond := Cond.code yX1_count cX1_count 2 (some .int) :: gb
theorem dX1_init_0 : decode cX1_init 0 = .ok (.aload_n 0, 1) := by decide +kernel
theorem dX1_init_1 : decode cX1_init 1 = .ok (.invokespecial 1, 3) := by decide +kernel
theorem dX1_init_4 : decode cX1_init 4 = .ok (.aload_n 0, 1) := by decide +kernel
theorem dX1_init_5 : decode cX1_init 5 = .ok (.iconst 1, 1) := by decide +kernel
theorem dX1_init_6 : decode cX1_init 6 = .ok (.putfield 7, 3) := by decide +kernel
theorem dX1_init_9 : decode cX1_init 9 = .ok (.aload_n 0, 1) := by decide +kernel
theorem dX1_init_10 : decode cX1_init 10 = .ok (.iconst 1, 1) := by decide +kernel
theorem dX1_init_11 : decode cX1_init 11 = .ok (.putfield 13, 3) := by decide +kernel
theorem dX1_init_14 : decode cX1_init 14 = .ok (.aload_n 0, 1) := by decide +kernel
theorem dX1_init_15 : decode cX1_init 15 = .ok (.bipush 8, 2) := by decide +kernel
theorem dX1_init_17 : decode cX1_init 17 = .ok (.putfield 16, 3) := by decide +kernel
theorem dX1_init_20 : decode cX1_init 20 = .ok (.aload_n 0, 1) := by decide +kernel
theorem dX1_init_21 : decode cX1_init 21 = .ok (.bipush 64, 2) := by decide +kernel
theorem dX1_init_23 : decode cX1_init 23 = .ok (.putfield 19, 3) := by decide +kernel
theorem dX1_init_26 : decode cX1_init 26 = .ok (.aload_n 0, 1) := by decide +kernel
theorem dX1_init_27 : decode cX1_init 27 = .ok (.sipush 4096, 3) := by decide +kernel
theorem dX1_init_30 : decode cX1_init 30 = .ok (.newarray .int, 2) := by decide +kernel
theorem dX1_init_32 : decode cX1_init 32 = .ok (.putfield 22, 3) := by decide +kernel
theorem dX1_init_35 : decode cX1_init 35 = .ok (.aload_n 0, 1) := by decide +kernel
theorem dX1_init_36 : decode cX1_init 36 = .ok (.sipush 4096, 3) := by decide +kernel
theorem dX1_init_39 : decode cX1_init 39 = .ok (.newarray .int, 2) := by decide +kernel
theorem dX1_init_41 : decode cX1_init 41 = .ok (.putfield 26, 3) := by decide +kernel
theorem dX1_init_44 : decode cX1_init 44 = .ok (.aload_n 0, 1) := by decide +kernel
theorem dX1_init_45 : decode cX1_init 45 = .ok (.sipush 4096, 3) := by decide +kernel
theorem dX1_init_48 : decode cX1_init 48 = .ok (.newarray .int, 2) := by decide +kernel
theorem dX1_init_50 : decode cX1_init 50 = .ok (.putfield 29, 3) := by decide +kernel
theorem dX1_init_53 : decode cX1_init 53 = .ok (.aload_n 0, 1) := by decide +kernel
theorem dX1_init_54 : decode cX1_init 54 = .ok (.sipush 4096, 3) := by decide +kernel
theorem dX1_init_57 : decode cX1_init 57 = .ok (.newarray .int, 2) := by decide +kernel
theorem dX1_init_59 : decode cX1_init 59 = .ok (.putfield 32, 3) := by decide +kernel
theorem dX1_init_62 : decode cX1_init 62 = .ok (.aload_n 0, 1) := by decide +kernel
theorem dX1_init_63 : decode cX1_init 63 = .ok (.sipush 4096, 3) := by decide +kernel
theorem dX1_init_66 : decode cX1_init 66 = .ok (.newarray .int, 2) := by decide +kernel
theorem dX1_init_68 : decode cX1_init 68 = .ok (.putfield 35, 3) := by decide +kernel
theorem dX1_init_71 : decode cX1_init 71 = .ok (.aload_n 0, 1) := by decide +kernel
theorem dX1_init_72 : decode cX1_init 72 = .ok (.iconst (-1), 1) := by decide +kernel
theorem dX1_init_73 : decode cX1_init 73 = .ok (.putfield 38, 3) := by decide +kernel
theorem dX1_init_76 : decode cX1_init 76 = .ok (.return_, 1) := by decide +kernel
theorem dX1_thrown_0 : decode cX1_thrown 0 = .ok (.aload_n 0, 1) := by decide +kernel
theorem dX1_thrown_1 : decode cX1_thrown 1 = .ok (.getfield 41, 3) := by decide +kernel
theorem dX1_thrown_4 : decode cX1_thrown 4 = .ok (.ireturn, 1) := by decide +kernel
theorem dX1_refuse_0 : decode cX1_refuse 0 = .ok (.aload_n 0, 1) := by decide +kernel
theorem dX1_refuse_1 : decode cX1_refuse 1 = .ok (.iload_n 1, 1) := by decide +kernel
theorem dX1_refuse_2 : decode cX1_refuse 2 = .ok (.ifCond .eq 7, 3) := by decide +kernel
theorem dX1_refuse_5 : decode cX1_refuse 5 = .ok (.iconst 1, 1) := by decide +kernel
theorem dX1_refuse_6 : decode cX1_refuse 6 = .ok (.goto 12, 3) := by decide +kernel
theorem dX1_refuse_9 : decode cX1_refuse 9 = .ok (.iload_n 2, 1) := by decide +kernel
theorem dX1_refuse_10 : decode cX1_refuse 10 = .ok (.ifCond .eq 7, 3) := by decide +kernel
theorem dX1_refuse_13 : decode cX1_refuse 13 = .ok (.iconst 2, 1) := by decide +kernel
theorem dX1_refuse_14 : decode cX1_refuse 14 = .ok (.goto 4, 3) := by decide +kernel
theorem dX1_refuse_17 : decode cX1_refuse 17 = .ok (.iconst 0, 1) := by decide +kernel
theorem dX1_refuse_18 : decode cX1_refuse 18 = .ok (.putfield 41, 3) := by decide +kernel
theorem dX1_refuse_21 : decode cX1_refuse 21 = .ok (.aload_n 0, 1) := by decide +kernel
theorem dX1_refuse_22 : decode cX1_refuse 22 = .ok (.getfield 41, 3) := by decide +kernel
theorem dX1_refuse_25 : decode cX1_refuse 25 = .ok (.ifCond .le 7, 3) := by decide +kernel
theorem dX1_refuse_28 : decode cX1_refuse 28 = .ok (.iconst 1, 1) := by decide +kernel
theorem dX1_refuse_29 : decode cX1_refuse 29 = .ok (.goto 4, 3) := by decide +kernel
theorem dX1_refuse_32 : decode cX1_refuse 32 = .ok (.iconst 0, 1) := by decide +kernel
theorem dX1_refuse_33 : decode cX1_refuse 33 = .ok (.ireturn, 1) := by decide +kernel
theorem dX1_in_0 : decode cX1_in 0 = .ok (.iload_n 0, 1) := by decide +kernel
theorem dX1_in_1 : decode cX1_in 1 = .ok (.iload_n 1, 1) := by decide +kernel
theorem dX1_in_2 : decode cX1_in 2 = .ok (.if_icmp .lt 12, 3) := by decide +kernel
theorem dX1_in_5 : decode cX1_in 5 = .ok (.iload_n 0, 1) := by decide +kernel
theorem dX1_in_6 : decode cX1_in 6 = .ok (.iload_n 2, 1) := by decide +kernel
theorem dX1_in_7 : decode cX1_in 7 = .ok (.if_icmp .gt 7, 3) := by decide +kernel
theorem dX1_in_10 : decode cX1_in 10 = .ok (.iconst 1, 1) := by decide +kernel
theorem dX1_in_11 : decode cX1_in 11 = .ok (.goto 4, 3) := by decide +kernel
theorem dX1_in_14 : decode cX1_in 14 = .ok (.iconst 0, 1) := by decide +kernel
theorem dX1_in_15 : decode cX1_in 15 = .ok (.ireturn, 1) := by decide +kernel
theorem dX1_across_0 : decode cX1_across 0 = .ok (.aload_n 0, 1) := by decide +kernel
theorem dX1_across_1 : decode cX1_across 1 = .ok (.getfield 7, 3) := by decide +kernel
theorem dX1_across_4 : decode cX1_across 4 = .ok (.aload_n 0, 1) := by decide +kernel
theorem dX1_across_5 : decode cX1_across 5 = .ok (.getfield 16, 3) := by decide +kernel
theorem dX1_across_8 : decode cX1_across 8 = .ok (.iadd, 1) := by decide +kernel
theorem dX1_across_9 : decode cX1_across 9 = .ok (.iconst 1, 1) := by decide +kernel
theorem dX1_across_10 : decode cX1_across 10 = .ok (.isub, 1) := by decide +kernel
theorem dX1_across_11 : decode cX1_across 11 = .ok (.aload_n 0, 1) := by decide +kernel
theorem dX1_across_12 : decode cX1_across 12 = .ok (.getfield 16, 3) := by decide +kernel
theorem dX1_across_15 : decode cX1_across 15 = .ok (.idiv, 1) := by decide +kernel
theorem dX1_across_16 : decode cX1_across 16 = .ok (.ireturn, 1) := by decide +kernel
theorem dX1_tiles_0 : decode cX1_tiles 0 = .ok (.aload_n 0, 1) := by decide +kernel
theorem dX1_tiles_1 : decode cX1_tiles 1 = .ok (.invokevirtual 44, 3) := by decide +kernel
theorem dX1_tiles_4 : decode cX1_tiles 4 = .ok (.aload_n 0, 1) := by decide +kernel
theorem dX1_tiles_5 : decode cX1_tiles 5 = .ok (.getfield 13, 3) := by decide +kernel
theorem dX1_tiles_8 : decode cX1_tiles 8 = .ok (.aload_n 0, 1) := by decide +kernel
theorem dX1_tiles_9 : decode cX1_tiles 9 = .ok (.getfield 16, 3) := by decide +kernel
theorem dX1_tiles_12 : decode cX1_tiles 12 = .ok (.iadd, 1) := by decide +kernel
theorem dX1_tiles_13 : decode cX1_tiles 13 = .ok (.iconst 1, 1) := by decide +kernel
theorem dX1_tiles_14 : decode cX1_tiles 14 = .ok (.isub, 1) := by decide +kernel
theorem dX1_tiles_15 : decode cX1_tiles 15 = .ok (.aload_n 0, 1) := by decide +kernel
theorem dX1_tiles_16 : decode cX1_tiles 16 = .ok (.getfield 16, 3) := by decide +kernel
theorem dX1_tiles_19 : decode cX1_tiles 19 = .ok (.idiv, 1) := by decide +kernel
theorem dX1_tiles_20 : decode cX1_tiles 20 = .ok (.imul, 1) := by decide +kernel
theorem dX1_tiles_21 : decode cX1_tiles 21 = .ok (.ireturn, 1) := by decide +kernel
theorem dX1_isTile_0 : decode cX1_isTile 0 = .ok (.iload_n 1, 1) := by decide +kernel
theorem dX1_isTile_1 : decode cX1_isTile 1 = .ok (.iconst 0, 1) := by decide +kernel
theorem dX1_isTile_2 : decode cX1_isTile 2 = .ok (.aload_n 0, 1) := by decide +kernel
theorem dX1_isTile_3 : decode cX1_isTile 3 = .ok (.invokevirtual 48, 3) := by decide +kernel
theorem dX1_isTile_6 : decode cX1_isTile 6 = .ok (.iconst 1, 1) := by decide +kernel
theorem dX1_isTile_7 : decode cX1_isTile 7 = .ok (.isub, 1) := by decide +kernel
theorem dX1_isTile_8 : decode cX1_isTile 8 = .ok (.invokestatic 51, 3) := by decide +kernel
theorem dX1_isTile_11 : decode cX1_isTile 11 = .ok (.ireturn, 1) := by decide +kernel
theorem dX1_field_0 : decode cX1_field 0 = .ok (.iload_n 1, 1) := by decide +kernel
theorem dX1_field_1 : decode cX1_field 1 = .ok (.iconst 1, 1) := by decide +kernel
theorem dX1_field_2 : decode cX1_field 2 = .ok (.sipush 1024, 3) := by decide +kernel
theorem dX1_field_5 : decode cX1_field 5 = .ok (.invokestatic 51, 3) := by decide +kernel
theorem dX1_field_8 : decode cX1_field 8 = .ok (.ifCond .eq 54, 3) := by decide +kernel
theorem dX1_field_11 : decode cX1_field 11 = .ok (.iload_n 2, 1) := by decide +kernel
theorem dX1_field_12 : decode cX1_field 12 = .ok (.iconst 1, 1) := by decide +kernel
theorem dX1_field_13 : decode cX1_field 13 = .ok (.sipush 1024, 3) := by decide +kernel
theorem dX1_field_16 : decode cX1_field 16 = .ok (.invokestatic 51, 3) := by decide +kernel
theorem dX1_field_19 : decode cX1_field 19 = .ok (.ifCond .eq 43, 3) := by decide +kernel
theorem dX1_field_22 : decode cX1_field 22 = .ok (.iload_n 3, 1) := by decide +kernel
theorem dX1_field_23 : decode cX1_field 23 = .ok (.bipush 8, 2) := by decide +kernel
theorem dX1_field_25 : decode cX1_field 25 = .ok (.if_icmp .eq 21, 3) := by decide +kernel
theorem dX1_field_28 : decode cX1_field 28 = .ok (.iload_n 3, 1) := by decide +kernel
theorem dX1_field_29 : decode cX1_field 29 = .ok (.bipush 16, 2) := by decide +kernel
theorem dX1_field_31 : decode cX1_field 31 = .ok (.if_icmp .eq 15, 3) := by decide +kernel
theorem dX1_field_34 : decode cX1_field 34 = .ok (.iload_n 3, 1) := by decide +kernel
theorem dX1_field_35 : decode cX1_field 35 = .ok (.bipush 32, 2) := by decide +kernel
theorem dX1_field_37 : decode cX1_field 37 = .ok (.if_icmp .eq 9, 3) := by decide +kernel
theorem dX1_field_40 : decode cX1_field 40 = .ok (.iload_n 3, 1) := by decide +kernel
theorem dX1_field_41 : decode cX1_field 41 = .ok (.bipush 64, 2) := by decide +kernel
theorem dX1_field_43 : decode cX1_field 43 = .ok (.if_icmp .ne 19, 3) := by decide +kernel
theorem dX1_field_46 : decode cX1_field 46 = .ok (.iload 4, 2) := by decide +kernel
theorem dX1_field_48 : decode cX1_field 48 = .ok (.iconst 1, 1) := by decide +kernel
theorem dX1_field_49 : decode cX1_field 49 = .ok (.sipush 8192, 3) := by decide +kernel
theorem dX1_field_52 : decode cX1_field 52 = .ok (.invokestatic 51, 3) := by decide +kernel
theorem dX1_field_55 : decode cX1_field 55 = .ok (.ifCond .eq 7, 3) := by decide +kernel
theorem dX1_field_58 : decode cX1_field 58 = .ok (.iconst 1, 1) := by decide +kernel
theorem dX1_field_59 : decode cX1_field 59 = .ok (.goto 4, 3) := by decide +kernel
theorem dX1_field_62 : decode cX1_field 62 = .ok (.iconst 0, 1) := by decide +kernel
theorem dX1_field_63 : decode cX1_field 63 = .ok (.istore 5, 2) := by decide +kernel
theorem dX1_field_65 : decode cX1_field 65 = .ok (.aload_n 0, 1) := by decide +kernel
theorem dX1_field_66 : decode cX1_field 66 = .ok (.iload 5, 2) := by decide +kernel
theorem dX1_field_68 : decode cX1_field 68 = .ok (.ifCond .ne 7, 3) := by decide +kernel
theorem dX1_field_71 : decode cX1_field 71 = .ok (.iconst 1, 1) := by decide +kernel
theorem dX1_field_72 : decode cX1_field 72 = .ok (.goto 4, 3) := by decide +kernel
theorem dX1_field_75 : decode cX1_field 75 = .ok (.iconst 0, 1) := by decide +kernel
theorem dX1_field_76 : decode cX1_field 76 = .ok (.iconst 0, 1) := by decide +kernel
theorem dX1_field_77 : decode cX1_field 77 = .ok (.invokevirtual 55, 3) := by decide +kernel
theorem dX1_field_80 : decode cX1_field 80 = .ok (.ifCond .eq 5, 3) := by decide +kernel
theorem dX1_field_83 : decode cX1_field 83 = .ok (.iconst 0, 1) := by decide +kernel
theorem dX1_field_84 : decode cX1_field 84 = .ok (.ireturn, 1) := by decide +kernel
theorem dX1_field_85 : decode cX1_field 85 = .ok (.aload_n 0, 1) := by decide +kernel
theorem dX1_field_86 : decode cX1_field 86 = .ok (.iload_n 1, 1) := by decide +kernel
theorem dX1_field_87 : decode cX1_field 87 = .ok (.putfield 7, 3) := by decide +kernel
theorem dX1_field_90 : decode cX1_field 90 = .ok (.aload_n 0, 1) := by decide +kernel
theorem dX1_field_91 : decode cX1_field 91 = .ok (.iload_n 2, 1) := by decide +kernel
theorem dX1_field_92 : decode cX1_field 92 = .ok (.putfield 13, 3) := by decide +kernel
theorem dX1_field_95 : decode cX1_field 95 = .ok (.aload_n 0, 1) := by decide +kernel
theorem dX1_field_96 : decode cX1_field 96 = .ok (.iload_n 3, 1) := by decide +kernel
theorem dX1_field_97 : decode cX1_field 97 = .ok (.putfield 16, 3) := by decide +kernel
theorem dX1_field_100 : decode cX1_field 100 = .ok (.aload_n 0, 1) := by decide +kernel
theorem dX1_field_101 : decode cX1_field 101 = .ok (.iload 4, 2) := by decide +kernel
theorem dX1_field_103 : decode cX1_field 103 = .ok (.putfield 19, 3) := by decide +kernel
theorem dX1_field_106 : decode cX1_field 106 = .ok (.aload_n 0, 1) := by decide +kernel
theorem dX1_field_107 : decode cX1_field 107 = .ok (.iconst 0, 1) := by decide +kernel
theorem dX1_field_108 : decode cX1_field 108 = .ok (.putfield 59, 3) := by decide +kernel
theorem dX1_field_111 : decode cX1_field 111 = .ok (.aload_n 0, 1) := by decide +kernel
theorem dX1_field_112 : decode cX1_field 112 = .ok (.iconst 0, 1) := by decide +kernel
theorem dX1_field_113 : decode cX1_field 113 = .ok (.putfield 62, 3) := by decide +kernel
theorem dX1_field_116 : decode cX1_field 116 = .ok (.aload_n 0, 1) := by decide +kernel
theorem dX1_field_117 : decode cX1_field 117 = .ok (.iconst (-1), 1) := by decide +kernel
theorem dX1_field_118 : decode cX1_field 118 = .ok (.putfield 38, 3) := by decide +kernel
theorem dX1_field_121 : decode cX1_field 121 = .ok (.aload_n 0, 1) := by decide +kernel
theorem dX1_field_122 : decode cX1_field 122 = .ok (.invokevirtual 48, 3) := by decide +kernel
theorem dX1_field_125 : decode cX1_field 125 = .ok (.ireturn, 1) := by decide +kernel
theorem dX1_least_0 : decode cX1_least 0 = .ok (.iload_n 0, 1) := by decide +kernel
theorem dX1_least_1 : decode cX1_least 1 = .ok (.iload_n 1, 1) := by decide +kernel
theorem dX1_least_2 : decode cX1_least 2 = .ok (.if_icmp .ge 7, 3) := by decide +kernel
theorem dX1_least_5 : decode cX1_least 5 = .ok (.iload_n 0, 1) := by decide +kernel
theorem dX1_least_6 : decode cX1_least 6 = .ok (.goto 4, 3) := by decide +kernel
theorem dX1_least_9 : decode cX1_least 9 = .ok (.iload_n 1, 1) := by decide +kernel
theorem dX1_least_10 : decode cX1_least 10 = .ok (.ireturn, 1) := by decide +kernel
theorem dX1_greatest_0 : decode cX1_greatest 0 = .ok (.iload_n 0, 1) := by decide +kernel
theorem dX1_greatest_1 : decode cX1_greatest 1 = .ok (.iload_n 1, 1) := by decide +kernel
theorem dX1_greatest_2 : decode cX1_greatest 2 = .ok (.if_icmp .le 7, 3) := by decide +kernel
theorem dX1_greatest_5 : decode cX1_greatest 5 = .ok (.iload_n 0, 1) := by decide +kernel
theorem dX1_greatest_6 : decode cX1_greatest 6 = .ok (.goto 4, 3) := by decide +kernel
theorem dX1_greatest_9 : decode cX1_greatest 9 = .ok (.iload_n 1, 1) := by decide +kernel
theorem dX1_greatest_10 : decode cX1_greatest 10 = .ok (.ireturn, 1) := by decide +kernel
theorem dX1_edge_0 : decode cX1_edge 0 = .ok (.iload_n 1, 1) := by decide +kernel
theorem dX1_edge_1 : decode cX1_edge 1 = .ok (.aload_n 0, 1) := by decide +kernel
theorem dX1_edge_2 : decode cX1_edge 2 = .ok (.invokevirtual 44, 3) := by decide +kernel
theorem dX1_edge_5 : decode cX1_edge 5 = .ok (.irem, 1) := by decide +kernel
theorem dX1_edge_6 : decode cX1_edge 6 = .ok (.aload_n 0, 1) := by decide +kernel
theorem dX1_edge_7 : decode cX1_edge 7 = .ok (.getfield 16, 3) := by decide +kernel
theorem dX1_edge_10 : decode cX1_edge 10 = .ok (.imul, 1) := by decide +kernel
theorem dX1_edge_11 : decode cX1_edge 11 = .ok (.istore_n 3, 1) := by decide +kernel
theorem dX1_edge_12 : decode cX1_edge 12 = .ok (.iload_n 1, 1) := by decide +kernel
theorem dX1_edge_13 : decode cX1_edge 13 = .ok (.aload_n 0, 1) := by decide +kernel
theorem dX1_edge_14 : decode cX1_edge 14 = .ok (.invokevirtual 44, 3) := by decide +kernel
theorem dX1_edge_17 : decode cX1_edge 17 = .ok (.idiv, 1) := by decide +kernel
theorem dX1_edge_18 : decode cX1_edge 18 = .ok (.aload_n 0, 1) := by decide +kernel
theorem dX1_edge_19 : decode cX1_edge 19 = .ok (.getfield 16, 3) := by decide +kernel
theorem dX1_edge_22 : decode cX1_edge 22 = .ok (.imul, 1) := by decide +kernel
theorem dX1_edge_23 : decode cX1_edge 23 = .ok (.istore 4, 2) := by decide +kernel
theorem dX1_edge_25 : decode cX1_edge 25 = .ok (.iload_n 2, 1) := by decide +kernel
theorem dX1_edge_26 : decode cX1_edge 26 = .ok (.tableswitch 45 0 2 #[26, 28, 31], 26) := by decide +kernel
theorem dX1_edge_52 : decode cX1_edge 52 = .ok (.iload_n 3, 1) := by decide +kernel
theorem dX1_edge_53 : decode cX1_edge 53 = .ok (.ireturn, 1) := by decide +kernel
theorem dX1_edge_54 : decode cX1_edge 54 = .ok (.iload 4, 2) := by decide +kernel
theorem dX1_edge_56 : decode cX1_edge 56 = .ok (.ireturn, 1) := by decide +kernel
theorem dX1_edge_57 : decode cX1_edge 57 = .ok (.iload_n 3, 1) := by decide +kernel
theorem dX1_edge_58 : decode cX1_edge 58 = .ok (.aload_n 0, 1) := by decide +kernel
theorem dX1_edge_59 : decode cX1_edge 59 = .ok (.getfield 16, 3) := by decide +kernel
theorem dX1_edge_62 : decode cX1_edge 62 = .ok (.iadd, 1) := by decide +kernel
theorem dX1_edge_63 : decode cX1_edge 63 = .ok (.aload_n 0, 1) := by decide +kernel
theorem dX1_edge_64 : decode cX1_edge 64 = .ok (.getfield 7, 3) := by decide +kernel
theorem dX1_edge_67 : decode cX1_edge 67 = .ok (.invokestatic 65, 3) := by decide +kernel
theorem dX1_edge_70 : decode cX1_edge 70 = .ok (.ireturn, 1) := by decide +kernel
theorem dX1_edge_71 : decode cX1_edge 71 = .ok (.iload 4, 2) := by decide +kernel
theorem dX1_edge_73 : decode cX1_edge 73 = .ok (.aload_n 0, 1) := by decide +kernel
theorem dX1_edge_74 : decode cX1_edge 74 = .ok (.getfield 16, 3) := by decide +kernel
theorem dX1_edge_77 : decode cX1_edge 77 = .ok (.iadd, 1) := by decide +kernel
theorem dX1_edge_78 : decode cX1_edge 78 = .ok (.aload_n 0, 1) := by decide +kernel
theorem dX1_edge_79 : decode cX1_edge 79 = .ok (.getfield 13, 3) := by decide +kernel
theorem dX1_edge_82 : decode cX1_edge 82 = .ok (.invokestatic 65, 3) := by decide +kernel
theorem dX1_edge_85 : decode cX1_edge 85 = .ok (.ireturn, 1) := by decide +kernel
theorem dX1_isEmpty_0 : decode cX1_isEmpty 0 = .ok (.iload_n 0, 1) := by decide +kernel
theorem dX1_isEmpty_1 : decode cX1_isEmpty 1 = .ok (.iload_n 2, 1) := by decide +kernel
theorem dX1_isEmpty_2 : decode cX1_isEmpty 2 = .ok (.if_icmp .ge 8, 3) := by decide +kernel
theorem dX1_isEmpty_5 : decode cX1_isEmpty 5 = .ok (.iload_n 1, 1) := by decide +kernel
theorem dX1_isEmpty_6 : decode cX1_isEmpty 6 = .ok (.iload_n 3, 1) := by decide +kernel
theorem dX1_isEmpty_7 : decode cX1_isEmpty 7 = .ok (.if_icmp .lt 7, 3) := by decide +kernel
theorem dX1_isEmpty_10 : decode cX1_isEmpty 10 = .ok (.iconst 1, 1) := by decide +kernel
theorem dX1_isEmpty_11 : decode cX1_isEmpty 11 = .ok (.goto 4, 3) := by decide +kernel
theorem dX1_isEmpty_14 : decode cX1_isEmpty 14 = .ok (.iconst 0, 1) := by decide +kernel
theorem dX1_isEmpty_15 : decode cX1_isEmpty 15 = .ok (.ireturn, 1) := by decide +kernel
theorem dX1_touches_0 : decode cX1_touches 0 = .ok (.aload_n 0, 1) := by decide +kernel
theorem dX1_touches_1 : decode cX1_touches 1 = .ok (.getfield 22, 3) := by decide +kernel
theorem dX1_touches_4 : decode cX1_touches 4 = .ok (.iload_n 1, 1) := by decide +kernel
theorem dX1_touches_5 : decode cX1_touches 5 = .ok (.iaload, 1) := by decide +kernel
theorem dX1_touches_6 : decode cX1_touches 6 = .ok (.aload_n 0, 1) := by decide +kernel
theorem dX1_touches_7 : decode cX1_touches 7 = .ok (.iload_n 2, 1) := by decide +kernel
theorem dX1_touches_8 : decode cX1_touches 8 = .ok (.iconst 0, 1) := by decide +kernel
theorem dX1_touches_9 : decode cX1_touches 9 = .ok (.invokevirtual 69, 3) := by decide +kernel
theorem dX1_touches_12 : decode cX1_touches 12 = .ok (.invokestatic 72, 3) := by decide +kernel
theorem dX1_touches_15 : decode cX1_touches 15 = .ok (.aload_n 0, 1) := by decide +kernel
theorem dX1_touches_16 : decode cX1_touches 16 = .ok (.getfield 26, 3) := by decide +kernel
theorem dX1_touches_19 : decode cX1_touches 19 = .ok (.iload_n 1, 1) := by decide +kernel
theorem dX1_touches_20 : decode cX1_touches 20 = .ok (.iaload, 1) := by decide +kernel
theorem dX1_touches_21 : decode cX1_touches 21 = .ok (.aload_n 0, 1) := by decide +kernel
theorem dX1_touches_22 : decode cX1_touches 22 = .ok (.iload_n 2, 1) := by decide +kernel
theorem dX1_touches_23 : decode cX1_touches 23 = .ok (.iconst 1, 1) := by decide +kernel
theorem dX1_touches_24 : decode cX1_touches 24 = .ok (.invokevirtual 69, 3) := by decide +kernel
theorem dX1_touches_27 : decode cX1_touches 27 = .ok (.invokestatic 72, 3) := by decide +kernel
theorem dX1_touches_30 : decode cX1_touches 30 = .ok (.aload_n 0, 1) := by decide +kernel
theorem dX1_touches_31 : decode cX1_touches 31 = .ok (.getfield 29, 3) := by decide +kernel
theorem dX1_touches_34 : decode cX1_touches 34 = .ok (.iload_n 1, 1) := by decide +kernel
theorem dX1_touches_35 : decode cX1_touches 35 = .ok (.iaload, 1) := by decide +kernel
theorem dX1_touches_36 : decode cX1_touches 36 = .ok (.aload_n 0, 1) := by decide +kernel
theorem dX1_touches_37 : decode cX1_touches 37 = .ok (.iload_n 2, 1) := by decide +kernel
theorem dX1_touches_38 : decode cX1_touches 38 = .ok (.iconst 2, 1) := by decide +kernel
theorem dX1_touches_39 : decode cX1_touches 39 = .ok (.invokevirtual 69, 3) := by decide +kernel
theorem dX1_touches_42 : decode cX1_touches 42 = .ok (.invokestatic 65, 3) := by decide +kernel
theorem dX1_touches_45 : decode cX1_touches 45 = .ok (.aload_n 0, 1) := by decide +kernel
theorem dX1_touches_46 : decode cX1_touches 46 = .ok (.getfield 32, 3) := by decide +kernel
theorem dX1_touches_49 : decode cX1_touches 49 = .ok (.iload_n 1, 1) := by decide +kernel
theorem dX1_touches_50 : decode cX1_touches 50 = .ok (.iaload, 1) := by decide +kernel
theorem dX1_touches_51 : decode cX1_touches 51 = .ok (.aload_n 0, 1) := by decide +kernel
theorem dX1_touches_52 : decode cX1_touches 52 = .ok (.iload_n 2, 1) := by decide +kernel
theorem dX1_touches_53 : decode cX1_touches 53 = .ok (.iconst 3, 1) := by decide +kernel
theorem dX1_touches_54 : decode cX1_touches 54 = .ok (.invokevirtual 69, 3) := by decide +kernel
theorem dX1_touches_57 : decode cX1_touches 57 = .ok (.invokestatic 65, 3) := by decide +kernel
theorem dX1_touches_60 : decode cX1_touches 60 = .ok (.invokestatic 75, 3) := by decide +kernel
theorem dX1_touches_63 : decode cX1_touches 63 = .ok (.ifCond .ne 7, 3) := by decide +kernel
theorem dX1_touches_66 : decode cX1_touches 66 = .ok (.iconst 1, 1) := by decide +kernel
theorem dX1_touches_67 : decode cX1_touches 67 = .ok (.goto 4, 3) := by decide +kernel
theorem dX1_touches_70 : decode cX1_touches 70 = .ok (.iconst 0, 1) := by decide +kernel
theorem dX1_touches_71 : decode cX1_touches 71 = .ok (.ireturn, 1) := by decide +kernel
theorem dX1_tilesOf_0 : decode cX1_tilesOf 0 = .ok (.iconst 0, 1) := by decide +kernel
theorem dX1_tilesOf_1 : decode cX1_tilesOf 1 = .ok (.istore_n 2, 1) := by decide +kernel
theorem dX1_tilesOf_2 : decode cX1_tilesOf 2 = .ok (.iconst 0, 1) := by decide +kernel
theorem dX1_tilesOf_3 : decode cX1_tilesOf 3 = .ok (.istore_n 3, 1) := by decide +kernel
theorem dX1_tilesOf_4 : decode cX1_tilesOf 4 = .ok (.iload_n 3, 1) := by decide +kernel
theorem dX1_tilesOf_5 : decode cX1_tilesOf 5 = .ok (.aload_n 0, 1) := by decide +kernel
theorem dX1_tilesOf_6 : decode cX1_tilesOf 6 = .ok (.invokevirtual 48, 3) := by decide +kernel
theorem dX1_tilesOf_9 : decode cX1_tilesOf 9 = .ok (.if_icmp .ge 26, 3) := by decide +kernel
theorem dX1_tilesOf_12 : decode cX1_tilesOf 12 = .ok (.aload_n 0, 1) := by decide +kernel
theorem dX1_tilesOf_13 : decode cX1_tilesOf 13 = .ok (.iload_n 1, 1) := by decide +kernel
theorem dX1_tilesOf_14 : decode cX1_tilesOf 14 = .ok (.iload_n 3, 1) := by decide +kernel
theorem dX1_tilesOf_15 : decode cX1_tilesOf 15 = .ok (.invokevirtual 79, 3) := by decide +kernel
theorem dX1_tilesOf_18 : decode cX1_tilesOf 18 = .ok (.ifCond .eq 9, 3) := by decide +kernel
theorem dX1_tilesOf_21 : decode cX1_tilesOf 21 = .ok (.iload_n 2, 1) := by decide +kernel
theorem dX1_tilesOf_22 : decode cX1_tilesOf 22 = .ok (.iconst 1, 1) := by decide +kernel
theorem dX1_tilesOf_23 : decode cX1_tilesOf 23 = .ok (.iadd, 1) := by decide +kernel
theorem dX1_tilesOf_24 : decode cX1_tilesOf 24 = .ok (.goto 4, 3) := by decide +kernel
theorem dX1_tilesOf_27 : decode cX1_tilesOf 27 = .ok (.iload_n 2, 1) := by decide +kernel
theorem dX1_tilesOf_28 : decode cX1_tilesOf 28 = .ok (.istore_n 2, 1) := by decide +kernel
theorem dX1_tilesOf_29 : decode cX1_tilesOf 29 = .ok (.iinc 3 1, 3) := by decide +kernel
theorem dX1_tilesOf_32 : decode cX1_tilesOf 32 = .ok (.goto (-28), 3) := by decide +kernel
theorem dX1_tilesOf_35 : decode cX1_tilesOf 35 = .ok (.iload_n 2, 1) := by decide +kernel
theorem dX1_tilesOf_36 : decode cX1_tilesOf 36 = .ok (.ireturn, 1) := by decide +kernel
theorem dX1_put_0 : decode cX1_put 0 = .ok (.aload_n 0, 1) := by decide +kernel
theorem dX1_put_1 : decode cX1_put 1 = .ok (.aload_n 0, 1) := by decide +kernel
theorem dX1_put_2 : decode cX1_put 2 = .ok (.getfield 59, 3) := by decide +kernel
theorem dX1_put_5 : decode cX1_put 5 = .ok (.sipush 4096, 3) := by decide +kernel
theorem dX1_put_8 : decode cX1_put 8 = .ok (.if_icmp .ne 7, 3) := by decide +kernel
theorem dX1_put_11 : decode cX1_put 11 = .ok (.iconst 1, 1) := by decide +kernel
theorem dX1_put_12 : decode cX1_put 12 = .ok (.goto 4, 3) := by decide +kernel
theorem dX1_put_15 : decode cX1_put 15 = .ok (.iconst 0, 1) := by decide +kernel
theorem dX1_put_16 : decode cX1_put 16 = .ok (.iconst 0, 1) := by decide +kernel
theorem dX1_put_17 : decode cX1_put 17 = .ok (.invokevirtual 55, 3) := by decide +kernel
theorem dX1_put_20 : decode cX1_put 20 = .ok (.ifCond .eq 5, 3) := by decide +kernel
theorem dX1_put_23 : decode cX1_put 23 = .ok (.iconst 0, 1) := by decide +kernel
theorem dX1_put_24 : decode cX1_put 24 = .ok (.ireturn, 1) := by decide +kernel
theorem dX1_put_25 : decode cX1_put 25 = .ok (.aload_n 0, 1) := by decide +kernel
theorem dX1_put_26 : decode cX1_put 26 = .ok (.getfield 59, 3) := by decide +kernel
theorem dX1_put_29 : decode cX1_put 29 = .ok (.istore 6, 2) := by decide +kernel
theorem dX1_put_31 : decode cX1_put 31 = .ok (.aload_n 0, 1) := by decide +kernel
theorem dX1_put_32 : decode cX1_put 32 = .ok (.getfield 22, 3) := by decide +kernel
theorem dX1_put_35 : decode cX1_put 35 = .ok (.iload 6, 2) := by decide +kernel
theorem dX1_put_37 : decode cX1_put 37 = .ok (.iload_n 1, 1) := by decide +kernel
theorem dX1_put_38 : decode cX1_put 38 = .ok (.iconst 0, 1) := by decide +kernel
theorem dX1_put_39 : decode cX1_put 39 = .ok (.invokestatic 72, 3) := by decide +kernel
theorem dX1_put_42 : decode cX1_put 42 = .ok (.iastore, 1) := by decide +kernel
theorem dX1_put_43 : decode cX1_put 43 = .ok (.aload_n 0, 1) := by decide +kernel
theorem dX1_put_44 : decode cX1_put 44 = .ok (.getfield 26, 3) := by decide +kernel
theorem dX1_put_47 : decode cX1_put 47 = .ok (.iload 6, 2) := by decide +kernel
theorem dX1_put_49 : decode cX1_put 49 = .ok (.iload_n 2, 1) := by decide +kernel
theorem dX1_put_50 : decode cX1_put 50 = .ok (.iconst 0, 1) := by decide +kernel
theorem dX1_put_51 : decode cX1_put 51 = .ok (.invokestatic 72, 3) := by decide +kernel
theorem dX1_put_54 : decode cX1_put 54 = .ok (.iastore, 1) := by decide +kernel
theorem dX1_put_55 : decode cX1_put 55 = .ok (.aload_n 0, 1) := by decide +kernel
theorem dX1_put_56 : decode cX1_put 56 = .ok (.getfield 29, 3) := by decide +kernel
theorem dX1_put_59 : decode cX1_put 59 = .ok (.iload 6, 2) := by decide +kernel
theorem dX1_put_61 : decode cX1_put 61 = .ok (.iload_n 3, 1) := by decide +kernel
theorem dX1_put_62 : decode cX1_put 62 = .ok (.aload_n 0, 1) := by decide +kernel
theorem dX1_put_63 : decode cX1_put 63 = .ok (.getfield 7, 3) := by decide +kernel
theorem dX1_put_66 : decode cX1_put 66 = .ok (.invokestatic 65, 3) := by decide +kernel
theorem dX1_put_69 : decode cX1_put 69 = .ok (.iastore, 1) := by decide +kernel
theorem dX1_put_70 : decode cX1_put 70 = .ok (.aload_n 0, 1) := by decide +kernel
theorem dX1_put_71 : decode cX1_put 71 = .ok (.getfield 32, 3) := by decide +kernel
theorem dX1_put_74 : decode cX1_put 74 = .ok (.iload 6, 2) := by decide +kernel
theorem dX1_put_76 : decode cX1_put 76 = .ok (.iload 4, 2) := by decide +kernel
theorem dX1_put_78 : decode cX1_put 78 = .ok (.aload_n 0, 1) := by decide +kernel
theorem dX1_put_79 : decode cX1_put 79 = .ok (.getfield 13, 3) := by decide +kernel
theorem dX1_put_82 : decode cX1_put 82 = .ok (.invokestatic 65, 3) := by decide +kernel
theorem dX1_put_85 : decode cX1_put 85 = .ok (.iastore, 1) := by decide +kernel
theorem dX1_put_86 : decode cX1_put 86 = .ok (.aload_n 0, 1) := by decide +kernel
theorem dX1_put_87 : decode cX1_put 87 = .ok (.getfield 35, 3) := by decide +kernel
theorem dX1_put_90 : decode cX1_put 90 = .ok (.iload 6, 2) := by decide +kernel
theorem dX1_put_92 : decode cX1_put 92 = .ok (.iload 5, 2) := by decide +kernel
theorem dX1_put_94 : decode cX1_put 94 = .ok (.iastore, 1) := by decide +kernel
theorem dX1_put_95 : decode cX1_put 95 = .ok (.aload_n 0, 1) := by decide +kernel
theorem dX1_put_96 : decode cX1_put 96 = .ok (.getfield 22, 3) := by decide +kernel
theorem dX1_put_99 : decode cX1_put 99 = .ok (.iload 6, 2) := by decide +kernel
theorem dX1_put_101 : decode cX1_put 101 = .ok (.iaload, 1) := by decide +kernel
theorem dX1_put_102 : decode cX1_put 102 = .ok (.aload_n 0, 1) := by decide +kernel
theorem dX1_put_103 : decode cX1_put 103 = .ok (.getfield 26, 3) := by decide +kernel
theorem dX1_put_106 : decode cX1_put 106 = .ok (.iload 6, 2) := by decide +kernel
theorem dX1_put_108 : decode cX1_put 108 = .ok (.iaload, 1) := by decide +kernel
theorem dX1_put_109 : decode cX1_put 109 = .ok (.aload_n 0, 1) := by decide +kernel
theorem dX1_put_110 : decode cX1_put 110 = .ok (.getfield 29, 3) := by decide +kernel
theorem dX1_put_113 : decode cX1_put 113 = .ok (.iload 6, 2) := by decide +kernel
theorem dX1_put_115 : decode cX1_put 115 = .ok (.iaload, 1) := by decide +kernel
theorem dX1_put_116 : decode cX1_put 116 = .ok (.aload_n 0, 1) := by decide +kernel
theorem dX1_put_117 : decode cX1_put 117 = .ok (.getfield 32, 3) := by decide +kernel
theorem dX1_put_120 : decode cX1_put 120 = .ok (.iload 6, 2) := by decide +kernel
theorem dX1_put_122 : decode cX1_put 122 = .ok (.iaload, 1) := by decide +kernel
theorem dX1_put_123 : decode cX1_put 123 = .ok (.invokestatic 75, 3) := by decide +kernel
theorem dX1_put_126 : decode cX1_put 126 = .ok (.ifCond .eq 35, 3) := by decide +kernel
theorem dX1_put_129 : decode cX1_put 129 = .ok (.aload_n 0, 1) := by decide +kernel
theorem dX1_put_130 : decode cX1_put 130 = .ok (.getfield 22, 3) := by decide +kernel
theorem dX1_put_133 : decode cX1_put 133 = .ok (.iload 6, 2) := by decide +kernel
theorem dX1_put_135 : decode cX1_put 135 = .ok (.iconst 0, 1) := by decide +kernel
theorem dX1_put_136 : decode cX1_put 136 = .ok (.iastore, 1) := by decide +kernel
theorem dX1_put_137 : decode cX1_put 137 = .ok (.aload_n 0, 1) := by decide +kernel
theorem dX1_put_138 : decode cX1_put 138 = .ok (.getfield 26, 3) := by decide +kernel
theorem dX1_put_141 : decode cX1_put 141 = .ok (.iload 6, 2) := by decide +kernel
theorem dX1_put_143 : decode cX1_put 143 = .ok (.iconst 0, 1) := by decide +kernel
theorem dX1_put_144 : decode cX1_put 144 = .ok (.iastore, 1) := by decide +kernel
theorem dX1_put_145 : decode cX1_put 145 = .ok (.aload_n 0, 1) := by decide +kernel
theorem dX1_put_146 : decode cX1_put 146 = .ok (.getfield 29, 3) := by decide +kernel
theorem dX1_put_149 : decode cX1_put 149 = .ok (.iload 6, 2) := by decide +kernel
theorem dX1_put_151 : decode cX1_put 151 = .ok (.iconst 0, 1) := by decide +kernel
theorem dX1_put_152 : decode cX1_put 152 = .ok (.iastore, 1) := by decide +kernel
theorem dX1_put_153 : decode cX1_put 153 = .ok (.aload_n 0, 1) := by decide +kernel
theorem dX1_put_154 : decode cX1_put 154 = .ok (.getfield 32, 3) := by decide +kernel
theorem dX1_put_157 : decode cX1_put 157 = .ok (.iload 6, 2) := by decide +kernel
theorem dX1_put_159 : decode cX1_put 159 = .ok (.iconst 0, 1) := by decide +kernel
theorem dX1_put_160 : decode cX1_put 160 = .ok (.iastore, 1) := by decide +kernel
theorem dX1_put_161 : decode cX1_put 161 = .ok (.aload_n 0, 1) := by decide +kernel
theorem dX1_put_162 : decode cX1_put 162 = .ok (.iload 6, 2) := by decide +kernel
theorem dX1_put_164 : decode cX1_put 164 = .ok (.invokevirtual 83, 3) := by decide +kernel
theorem dX1_put_167 : decode cX1_put 167 = .ok (.istore 7, 2) := by decide +kernel
theorem dX1_put_169 : decode cX1_put 169 = .ok (.aload_n 0, 1) := by decide +kernel
theorem dX1_put_170 : decode cX1_put 170 = .ok (.iload 7, 2) := by decide +kernel
theorem dX1_put_172 : decode cX1_put 172 = .ok (.aload_n 0, 1) := by decide +kernel
theorem dX1_put_173 : decode cX1_put 173 = .ok (.getfield 19, 3) := by decide +kernel
theorem dX1_put_176 : decode cX1_put 176 = .ok (.aload_n 0, 1) := by decide +kernel
theorem dX1_put_177 : decode cX1_put 177 = .ok (.getfield 62, 3) := by decide +kernel
theorem dX1_put_180 : decode cX1_put 180 = .ok (.isub, 1) := by decide +kernel
theorem dX1_put_181 : decode cX1_put 181 = .ok (.if_icmp .le 7, 3) := by decide +kernel
theorem dX1_put_184 : decode cX1_put 184 = .ok (.iconst 1, 1) := by decide +kernel
theorem dX1_put_185 : decode cX1_put 185 = .ok (.goto 4, 3) := by decide +kernel
theorem dX1_put_188 : decode cX1_put 188 = .ok (.iconst 0, 1) := by decide +kernel
theorem dX1_put_189 : decode cX1_put 189 = .ok (.iconst 0, 1) := by decide +kernel
theorem dX1_put_190 : decode cX1_put 190 = .ok (.invokevirtual 55, 3) := by decide +kernel
theorem dX1_put_193 : decode cX1_put 193 = .ok (.ifCond .eq 5, 3) := by decide +kernel
theorem dX1_put_196 : decode cX1_put 196 = .ok (.iconst 0, 1) := by decide +kernel
theorem dX1_put_197 : decode cX1_put 197 = .ok (.ireturn, 1) := by decide +kernel
theorem dX1_put_198 : decode cX1_put 198 = .ok (.aload_n 0, 1) := by decide +kernel
theorem dX1_put_199 : decode cX1_put 199 = .ok (.aload_n 0, 1) := by decide +kernel
theorem dX1_put_200 : decode cX1_put 200 = .ok (.getfield 62, 3) := by decide +kernel
theorem dX1_put_203 : decode cX1_put 203 = .ok (.iload 7, 2) := by decide +kernel
theorem dX1_put_205 : decode cX1_put 205 = .ok (.iadd, 1) := by decide +kernel
theorem dX1_put_206 : decode cX1_put 206 = .ok (.putfield 62, 3) := by decide +kernel
theorem dX1_put_209 : decode cX1_put 209 = .ok (.aload_n 0, 1) := by decide +kernel
theorem dX1_put_210 : decode cX1_put 210 = .ok (.dup, 1) := by decide +kernel
theorem dX1_put_211 : decode cX1_put 211 = .ok (.getfield 59, 3) := by decide +kernel
theorem dX1_put_214 : decode cX1_put 214 = .ok (.iconst 1, 1) := by decide +kernel
theorem dX1_put_215 : decode cX1_put 215 = .ok (.iadd, 1) := by decide +kernel
theorem dX1_put_216 : decode cX1_put 216 = .ok (.putfield 59, 3) := by decide +kernel
theorem dX1_put_219 : decode cX1_put 219 = .ok (.iload 6, 2) := by decide +kernel
theorem dX1_put_221 : decode cX1_put 221 = .ok (.ireturn, 1) := by decide +kernel
theorem dX1_empty_0 : decode cX1_empty 0 = .ok (.aload_n 0, 1) := by decide +kernel
theorem dX1_empty_1 : decode cX1_empty 1 = .ok (.iconst 0, 1) := by decide +kernel
theorem dX1_empty_2 : decode cX1_empty 2 = .ok (.putfield 41, 3) := by decide +kernel
theorem dX1_empty_5 : decode cX1_empty 5 = .ok (.aload_n 0, 1) := by decide +kernel
theorem dX1_empty_6 : decode cX1_empty 6 = .ok (.iconst 0, 1) := by decide +kernel
theorem dX1_empty_7 : decode cX1_empty 7 = .ok (.putfield 59, 3) := by decide +kernel
theorem dX1_empty_10 : decode cX1_empty 10 = .ok (.aload_n 0, 1) := by decide +kernel
theorem dX1_empty_11 : decode cX1_empty 11 = .ok (.iconst 0, 1) := by decide +kernel
theorem dX1_empty_12 : decode cX1_empty 12 = .ok (.putfield 62, 3) := by decide +kernel
theorem dX1_empty_15 : decode cX1_empty 15 = .ok (.aload_n 0, 1) := by decide +kernel
theorem dX1_empty_16 : decode cX1_empty 16 = .ok (.iconst (-1), 1) := by decide +kernel
theorem dX1_empty_17 : decode cX1_empty 17 = .ok (.putfield 38, 3) := by decide +kernel
theorem dX1_empty_20 : decode cX1_empty 20 = .ok (.return_, 1) := by decide +kernel
theorem dX1_manyOf_0 : decode cX1_manyOf 0 = .ok (.iconst 0, 1) := by decide +kernel
theorem dX1_manyOf_1 : decode cX1_manyOf 1 = .ok (.istore_n 2, 1) := by decide +kernel
theorem dX1_manyOf_2 : decode cX1_manyOf 2 = .ok (.iconst 0, 1) := by decide +kernel
theorem dX1_manyOf_3 : decode cX1_manyOf 3 = .ok (.istore_n 3, 1) := by decide +kernel
theorem dX1_manyOf_4 : decode cX1_manyOf 4 = .ok (.iload_n 3, 1) := by decide +kernel
theorem dX1_manyOf_5 : decode cX1_manyOf 5 = .ok (.aload_n 0, 1) := by decide +kernel
theorem dX1_manyOf_6 : decode cX1_manyOf 6 = .ok (.getfield 59, 3) := by decide +kernel
theorem dX1_manyOf_9 : decode cX1_manyOf 9 = .ok (.if_icmp .ge 26, 3) := by decide +kernel
theorem dX1_manyOf_12 : decode cX1_manyOf 12 = .ok (.aload_n 0, 1) := by decide +kernel
theorem dX1_manyOf_13 : decode cX1_manyOf 13 = .ok (.iload_n 3, 1) := by decide +kernel
theorem dX1_manyOf_14 : decode cX1_manyOf 14 = .ok (.iload_n 1, 1) := by decide +kernel
theorem dX1_manyOf_15 : decode cX1_manyOf 15 = .ok (.invokevirtual 79, 3) := by decide +kernel
theorem dX1_manyOf_18 : decode cX1_manyOf 18 = .ok (.ifCond .eq 9, 3) := by decide +kernel
theorem dX1_manyOf_21 : decode cX1_manyOf 21 = .ok (.iload_n 2, 1) := by decide +kernel
theorem dX1_manyOf_22 : decode cX1_manyOf 22 = .ok (.iconst 1, 1) := by decide +kernel
theorem dX1_manyOf_23 : decode cX1_manyOf 23 = .ok (.iadd, 1) := by decide +kernel
theorem dX1_manyOf_24 : decode cX1_manyOf 24 = .ok (.goto 4, 3) := by decide +kernel
theorem dX1_manyOf_27 : decode cX1_manyOf 27 = .ok (.iload_n 2, 1) := by decide +kernel
theorem dX1_manyOf_28 : decode cX1_manyOf 28 = .ok (.istore_n 2, 1) := by decide +kernel
theorem dX1_manyOf_29 : decode cX1_manyOf 29 = .ok (.iinc 3 1, 3) := by decide +kernel
theorem dX1_manyOf_32 : decode cX1_manyOf 32 = .ok (.goto (-28), 3) := by decide +kernel
theorem dX1_manyOf_35 : decode cX1_manyOf 35 = .ok (.iload_n 2, 1) := by decide +kernel
theorem dX1_manyOf_36 : decode cX1_manyOf 36 = .ok (.ireturn, 1) := by decide +kernel
theorem dX1_open_0 : decode cX1_open 0 = .ok (.aload_n 0, 1) := by decide +kernel
theorem dX1_open_1 : decode cX1_open 1 = .ok (.aload_n 0, 1) := by decide +kernel
theorem dX1_open_2 : decode cX1_open 2 = .ok (.iload_n 1, 1) := by decide +kernel
theorem dX1_open_3 : decode cX1_open 3 = .ok (.invokevirtual 87, 3) := by decide +kernel
theorem dX1_open_6 : decode cX1_open 6 = .ok (.ifCond .ne 7, 3) := by decide +kernel
theorem dX1_open_9 : decode cX1_open 9 = .ok (.iconst 1, 1) := by decide +kernel
theorem dX1_open_10 : decode cX1_open 10 = .ok (.goto 4, 3) := by decide +kernel
theorem dX1_open_13 : decode cX1_open 13 = .ok (.iconst 0, 1) := by decide +kernel
theorem dX1_open_14 : decode cX1_open 14 = .ok (.iconst 0, 1) := by decide +kernel
theorem dX1_open_15 : decode cX1_open 15 = .ok (.invokevirtual 55, 3) := by decide +kernel
theorem dX1_open_18 : decode cX1_open 18 = .ok (.ifCond .eq 5, 3) := by decide +kernel
theorem dX1_open_21 : decode cX1_open 21 = .ok (.iconst 0, 1) := by decide +kernel
theorem dX1_open_22 : decode cX1_open 22 = .ok (.ireturn, 1) := by decide +kernel
theorem dX1_open_23 : decode cX1_open 23 = .ok (.aload_n 0, 1) := by decide +kernel
theorem dX1_open_24 : decode cX1_open 24 = .ok (.iload_n 1, 1) := by decide +kernel
theorem dX1_open_25 : decode cX1_open 25 = .ok (.putfield 38, 3) := by decide +kernel
theorem dX1_open_28 : decode cX1_open 28 = .ok (.aload_n 0, 1) := by decide +kernel
theorem dX1_open_29 : decode cX1_open 29 = .ok (.iconst 0, 1) := by decide +kernel
theorem dX1_open_30 : decode cX1_open 30 = .ok (.putfield 91, 3) := by decide +kernel
theorem dX1_open_33 : decode cX1_open 33 = .ok (.aload_n 0, 1) := by decide +kernel
theorem dX1_open_34 : decode cX1_open 34 = .ok (.iload_n 1, 1) := by decide +kernel
theorem dX1_open_35 : decode cX1_open 35 = .ok (.invokevirtual 94, 3) := by decide +kernel
theorem dX1_open_38 : decode cX1_open 38 = .ok (.ireturn, 1) := by decide +kernel
theorem dX1_next_0 : decode cX1_next 0 = .ok (.aload_n 0, 1) := by decide +kernel
theorem dX1_next_1 : decode cX1_next 1 = .ok (.aload_n 0, 1) := by decide +kernel
theorem dX1_next_2 : decode cX1_next 2 = .ok (.getfield 38, 3) := by decide +kernel
theorem dX1_next_5 : decode cX1_next 5 = .ok (.ifCond .ge 7, 3) := by decide +kernel
theorem dX1_next_8 : decode cX1_next 8 = .ok (.iconst 1, 1) := by decide +kernel
theorem dX1_next_9 : decode cX1_next 9 = .ok (.goto 4, 3) := by decide +kernel
theorem dX1_next_12 : decode cX1_next 12 = .ok (.iconst 0, 1) := by decide +kernel
theorem dX1_next_13 : decode cX1_next 13 = .ok (.iconst 0, 1) := by decide +kernel
theorem dX1_next_14 : decode cX1_next 14 = .ok (.invokevirtual 55, 3) := by decide +kernel
theorem dX1_next_17 : decode cX1_next 17 = .ok (.ifCond .eq 5, 3) := by decide +kernel
theorem dX1_next_20 : decode cX1_next 20 = .ok (.iconst 0, 1) := by decide +kernel
theorem dX1_next_21 : decode cX1_next 21 = .ok (.ireturn, 1) := by decide +kernel
theorem dX1_next_22 : decode cX1_next 22 = .ok (.aload_n 0, 1) := by decide +kernel
theorem dX1_next_23 : decode cX1_next 23 = .ok (.getfield 91, 3) := by decide +kernel
theorem dX1_next_26 : decode cX1_next 26 = .ok (.aload_n 0, 1) := by decide +kernel
theorem dX1_next_27 : decode cX1_next 27 = .ok (.getfield 59, 3) := by decide +kernel
theorem dX1_next_30 : decode cX1_next 30 = .ok (.if_icmp .ge 31, 3) := by decide +kernel
theorem dX1_next_33 : decode cX1_next 33 = .ok (.aload_n 0, 1) := by decide +kernel
theorem dX1_next_34 : decode cX1_next 34 = .ok (.aload_n 0, 1) := by decide +kernel
theorem dX1_next_35 : decode cX1_next 35 = .ok (.getfield 91, 3) := by decide +kernel
theorem dX1_next_38 : decode cX1_next 38 = .ok (.aload_n 0, 1) := by decide +kernel
theorem dX1_next_39 : decode cX1_next 39 = .ok (.getfield 38, 3) := by decide +kernel
theorem dX1_next_42 : decode cX1_next 42 = .ok (.invokevirtual 79, 3) := by decide +kernel
theorem dX1_next_45 : decode cX1_next 45 = .ok (.ifCond .ne 16, 3) := by decide +kernel
theorem dX1_next_48 : decode cX1_next 48 = .ok (.aload_n 0, 1) := by decide +kernel
theorem dX1_next_49 : decode cX1_next 49 = .ok (.dup, 1) := by decide +kernel
theorem dX1_next_50 : decode cX1_next 50 = .ok (.getfield 91, 3) := by decide +kernel
theorem dX1_next_53 : decode cX1_next 53 = .ok (.iconst 1, 1) := by decide +kernel
theorem dX1_next_54 : decode cX1_next 54 = .ok (.iadd, 1) := by decide +kernel
theorem dX1_next_55 : decode cX1_next 55 = .ok (.putfield 91, 3) := by decide +kernel
theorem dX1_next_58 : decode cX1_next 58 = .ok (.goto (-36), 3) := by decide +kernel
theorem dX1_next_61 : decode cX1_next 61 = .ok (.aload_n 0, 1) := by decide +kernel
theorem dX1_next_62 : decode cX1_next 62 = .ok (.getfield 91, 3) := by decide +kernel
theorem dX1_next_65 : decode cX1_next 65 = .ok (.aload_n 0, 1) := by decide +kernel
theorem dX1_next_66 : decode cX1_next 66 = .ok (.getfield 59, 3) := by decide +kernel
theorem dX1_next_69 : decode cX1_next 69 = .ok (.if_icmp .ne 5, 3) := by decide +kernel
theorem dX1_next_72 : decode cX1_next 72 = .ok (.iconst (-1), 1) := by decide +kernel
theorem dX1_next_73 : decode cX1_next 73 = .ok (.ireturn, 1) := by decide +kernel
theorem dX1_next_74 : decode cX1_next 74 = .ok (.aload_n 0, 1) := by decide +kernel
theorem dX1_next_75 : decode cX1_next 75 = .ok (.dup, 1) := by decide +kernel
theorem dX1_next_76 : decode cX1_next 76 = .ok (.getfield 91, 3) := by decide +kernel
theorem dX1_next_79 : decode cX1_next 79 = .ok (.iconst 1, 1) := by decide +kernel
theorem dX1_next_80 : decode cX1_next 80 = .ok (.iadd, 1) := by decide +kernel
theorem dX1_next_81 : decode cX1_next 81 = .ok (.putfield 91, 3) := by decide +kernel
theorem dX1_next_84 : decode cX1_next 84 = .ok (.aload_n 0, 1) := by decide +kernel
theorem dX1_next_85 : decode cX1_next 85 = .ok (.getfield 91, 3) := by decide +kernel
theorem dX1_next_88 : decode cX1_next 88 = .ok (.iconst 1, 1) := by decide +kernel
theorem dX1_next_89 : decode cX1_next 89 = .ok (.isub, 1) := by decide +kernel
theorem dX1_next_90 : decode cX1_next 90 = .ok (.ireturn, 1) := by decide +kernel
theorem dX1_item_0 : decode cX1_item 0 = .ok (.aload_n 0, 1) := by decide +kernel
theorem dX1_item_1 : decode cX1_item 1 = .ok (.iload_n 1, 1) := by decide +kernel
theorem dX1_item_2 : decode cX1_item 2 = .ok (.iconst 0, 1) := by decide +kernel
theorem dX1_item_3 : decode cX1_item 3 = .ok (.aload_n 0, 1) := by decide +kernel
theorem dX1_item_4 : decode cX1_item 4 = .ok (.getfield 59, 3) := by decide +kernel
theorem dX1_item_7 : decode cX1_item 7 = .ok (.iconst 1, 1) := by decide +kernel
theorem dX1_item_8 : decode cX1_item 8 = .ok (.isub, 1) := by decide +kernel
theorem dX1_item_9 : decode cX1_item 9 = .ok (.invokestatic 51, 3) := by decide +kernel
theorem dX1_item_12 : decode cX1_item 12 = .ok (.ifCond .ne 7, 3) := by decide +kernel
theorem dX1_item_15 : decode cX1_item 15 = .ok (.iconst 1, 1) := by decide +kernel
theorem dX1_item_16 : decode cX1_item 16 = .ok (.goto 4, 3) := by decide +kernel
theorem dX1_item_19 : decode cX1_item 19 = .ok (.iconst 0, 1) := by decide +kernel
theorem dX1_item_20 : decode cX1_item 20 = .ok (.iload_n 2, 1) := by decide +kernel
theorem dX1_item_21 : decode cX1_item 21 = .ok (.iconst 0, 1) := by decide +kernel
theorem dX1_item_22 : decode cX1_item 22 = .ok (.iconst 5, 1) := by decide +kernel
theorem dX1_item_23 : decode cX1_item 23 = .ok (.invokestatic 51, 3) := by decide +kernel
theorem dX1_item_26 : decode cX1_item 26 = .ok (.ifCond .ne 7, 3) := by decide +kernel
theorem dX1_item_29 : decode cX1_item 29 = .ok (.iconst 1, 1) := by decide +kernel
theorem dX1_item_30 : decode cX1_item 30 = .ok (.goto 4, 3) := by decide +kernel
theorem dX1_item_33 : decode cX1_item 33 = .ok (.iconst 0, 1) := by decide +kernel
theorem dX1_item_34 : decode cX1_item 34 = .ok (.invokevirtual 55, 3) := by decide +kernel
theorem dX1_item_37 : decode cX1_item 37 = .ok (.ifCond .eq 5, 3) := by decide +kernel
theorem dX1_item_40 : decode cX1_item 40 = .ok (.iconst 0, 1) := by decide +kernel
theorem dX1_item_41 : decode cX1_item 41 = .ok (.ireturn, 1) := by decide +kernel
theorem dX1_item_42 : decode cX1_item 42 = .ok (.iload_n 2, 1) := by decide +kernel
theorem dX1_item_43 : decode cX1_item 43 = .ok (.tableswitch 68 0 4 #[33, 40, 47, 54, 61], 33) := by decide +kernel
theorem dX1_item_76 : decode cX1_item 76 = .ok (.aload_n 0, 1) := by decide +kernel
theorem dX1_item_77 : decode cX1_item 77 = .ok (.getfield 22, 3) := by decide +kernel
theorem dX1_item_80 : decode cX1_item 80 = .ok (.iload_n 1, 1) := by decide +kernel
theorem dX1_item_81 : decode cX1_item 81 = .ok (.iaload, 1) := by decide +kernel
theorem dX1_item_82 : decode cX1_item 82 = .ok (.ireturn, 1) := by decide +kernel
theorem dX1_item_83 : decode cX1_item 83 = .ok (.aload_n 0, 1) := by decide +kernel
theorem dX1_item_84 : decode cX1_item 84 = .ok (.getfield 26, 3) := by decide +kernel
theorem dX1_item_87 : decode cX1_item 87 = .ok (.iload_n 1, 1) := by decide +kernel
theorem dX1_item_88 : decode cX1_item 88 = .ok (.iaload, 1) := by decide +kernel
theorem dX1_item_89 : decode cX1_item 89 = .ok (.ireturn, 1) := by decide +kernel
theorem dX1_item_90 : decode cX1_item 90 = .ok (.aload_n 0, 1) := by decide +kernel
theorem dX1_item_91 : decode cX1_item 91 = .ok (.getfield 29, 3) := by decide +kernel
theorem dX1_item_94 : decode cX1_item 94 = .ok (.iload_n 1, 1) := by decide +kernel
theorem dX1_item_95 : decode cX1_item 95 = .ok (.iaload, 1) := by decide +kernel
theorem dX1_item_96 : decode cX1_item 96 = .ok (.ireturn, 1) := by decide +kernel
theorem dX1_item_97 : decode cX1_item 97 = .ok (.aload_n 0, 1) := by decide +kernel
theorem dX1_item_98 : decode cX1_item 98 = .ok (.getfield 32, 3) := by decide +kernel
theorem dX1_item_101 : decode cX1_item 101 = .ok (.iload_n 1, 1) := by decide +kernel
theorem dX1_item_102 : decode cX1_item 102 = .ok (.iaload, 1) := by decide +kernel
theorem dX1_item_103 : decode cX1_item 103 = .ok (.ireturn, 1) := by decide +kernel
theorem dX1_item_104 : decode cX1_item 104 = .ok (.aload_n 0, 1) := by decide +kernel
theorem dX1_item_105 : decode cX1_item 105 = .ok (.getfield 35, 3) := by decide +kernel
theorem dX1_item_108 : decode cX1_item 108 = .ok (.iload_n 1, 1) := by decide +kernel
theorem dX1_item_109 : decode cX1_item 109 = .ok (.iaload, 1) := by decide +kernel
theorem dX1_item_110 : decode cX1_item 110 = .ok (.ireturn, 1) := by decide +kernel
theorem dX1_item_111 : decode cX1_item 111 = .ok (.aload_n 0, 1) := by decide +kernel
theorem dX1_item_112 : decode cX1_item 112 = .ok (.iload_n 1, 1) := by decide +kernel
theorem dX1_item_113 : decode cX1_item 113 = .ok (.invokevirtual 83, 3) := by decide +kernel
theorem dX1_item_116 : decode cX1_item 116 = .ok (.ireturn, 1) := by decide +kernel
theorem dX1_tile_0 : decode cX1_tile 0 = .ok (.aload_n 0, 1) := by decide +kernel
theorem dX1_tile_1 : decode cX1_tile 1 = .ok (.aload_n 0, 1) := by decide +kernel
theorem dX1_tile_2 : decode cX1_tile 2 = .ok (.iload_n 1, 1) := by decide +kernel
theorem dX1_tile_3 : decode cX1_tile 3 = .ok (.invokevirtual 87, 3) := by decide +kernel
theorem dX1_tile_6 : decode cX1_tile 6 = .ok (.ifCond .eq 12, 3) := by decide +kernel
theorem dX1_tile_9 : decode cX1_tile 9 = .ok (.iload_n 2, 1) := by decide +kernel
theorem dX1_tile_10 : decode cX1_tile 10 = .ok (.iconst 0, 1) := by decide +kernel
theorem dX1_tile_11 : decode cX1_tile 11 = .ok (.iconst 4, 1) := by decide +kernel
theorem dX1_tile_12 : decode cX1_tile 12 = .ok (.invokestatic 51, 3) := by decide +kernel
theorem dX1_tile_15 : decode cX1_tile 15 = .ok (.ifCond .ne 7, 3) := by decide +kernel
theorem dX1_tile_18 : decode cX1_tile 18 = .ok (.iconst 1, 1) := by decide +kernel
theorem dX1_tile_19 : decode cX1_tile 19 = .ok (.goto 4, 3) := by decide +kernel
theorem dX1_tile_22 : decode cX1_tile 22 = .ok (.iconst 0, 1) := by decide +kernel
theorem dX1_tile_23 : decode cX1_tile 23 = .ok (.iconst 0, 1) := by decide +kernel
theorem dX1_tile_24 : decode cX1_tile 24 = .ok (.invokevirtual 55, 3) := by decide +kernel
theorem dX1_tile_27 : decode cX1_tile 27 = .ok (.ifCond .eq 5, 3) := by decide +kernel
theorem dX1_tile_30 : decode cX1_tile 30 = .ok (.iconst 0, 1) := by decide +kernel
theorem dX1_tile_31 : decode cX1_tile 31 = .ok (.ireturn, 1) := by decide +kernel
theorem dX1_tile_32 : decode cX1_tile 32 = .ok (.iload_n 2, 1) := by decide +kernel
theorem dX1_tile_33 : decode cX1_tile 33 = .ok (.iconst 4, 1) := by decide +kernel
theorem dX1_tile_34 : decode cX1_tile 34 = .ok (.if_icmp .ne 11, 3) := by decide +kernel
theorem dX1_tile_37 : decode cX1_tile 37 = .ok (.aload_n 0, 1) := by decide +kernel
theorem dX1_tile_38 : decode cX1_tile 38 = .ok (.iload_n 1, 1) := by decide +kernel
theorem dX1_tile_39 : decode cX1_tile 39 = .ok (.invokevirtual 94, 3) := by decide +kernel
theorem dX1_tile_42 : decode cX1_tile 42 = .ok (.goto 9, 3) := by decide +kernel
theorem dX1_tile_45 : decode cX1_tile 45 = .ok (.aload_n 0, 1) := by decide +kernel
theorem dX1_tile_46 : decode cX1_tile 46 = .ok (.iload_n 1, 1) := by decide +kernel
theorem dX1_tile_47 : decode cX1_tile 47 = .ok (.iload_n 2, 1) := by decide +kernel
theorem dX1_tile_48 : decode cX1_tile 48 = .ok (.invokevirtual 69, 3) := by decide +kernel
theorem dX1_tile_51 : decode cX1_tile 51 = .ok (.ireturn, 1) := by decide +kernel
theorem dX1_tileOf_0 : decode cX1_tileOf 0 = .ok (.aload_n 0, 1) := by decide +kernel
theorem dX1_tileOf_1 : decode cX1_tileOf 1 = .ok (.iload_n 1, 1) := by decide +kernel
theorem dX1_tileOf_2 : decode cX1_tileOf 2 = .ok (.iconst 0, 1) := by decide +kernel
theorem dX1_tileOf_3 : decode cX1_tileOf 3 = .ok (.aload_n 0, 1) := by decide +kernel
theorem dX1_tileOf_4 : decode cX1_tileOf 4 = .ok (.getfield 7, 3) := by decide +kernel
theorem dX1_tileOf_7 : decode cX1_tileOf 7 = .ok (.iconst 1, 1) := by decide +kernel
theorem dX1_tileOf_8 : decode cX1_tileOf 8 = .ok (.isub, 1) := by decide +kernel
theorem dX1_tileOf_9 : decode cX1_tileOf 9 = .ok (.invokestatic 51, 3) := by decide +kernel
theorem dX1_tileOf_12 : decode cX1_tileOf 12 = .ok (.ifCond .eq 17, 3) := by decide +kernel
theorem dX1_tileOf_15 : decode cX1_tileOf 15 = .ok (.iload_n 2, 1) := by decide +kernel
theorem dX1_tileOf_16 : decode cX1_tileOf 16 = .ok (.iconst 0, 1) := by decide +kernel
theorem dX1_tileOf_17 : decode cX1_tileOf 17 = .ok (.aload_n 0, 1) := by decide +kernel
theorem dX1_tileOf_18 : decode cX1_tileOf 18 = .ok (.getfield 13, 3) := by decide +kernel
theorem dX1_tileOf_21 : decode cX1_tileOf 21 = .ok (.iconst 1, 1) := by decide +kernel
theorem dX1_tileOf_22 : decode cX1_tileOf 22 = .ok (.isub, 1) := by decide +kernel
theorem dX1_tileOf_23 : decode cX1_tileOf 23 = .ok (.invokestatic 51, 3) := by decide +kernel
theorem dX1_tileOf_26 : decode cX1_tileOf 26 = .ok (.ifCond .ne 7, 3) := by decide +kernel
theorem dX1_tileOf_29 : decode cX1_tileOf 29 = .ok (.iconst 1, 1) := by decide +kernel
theorem dX1_tileOf_30 : decode cX1_tileOf 30 = .ok (.goto 4, 3) := by decide +kernel
theorem dX1_tileOf_33 : decode cX1_tileOf 33 = .ok (.iconst 0, 1) := by decide +kernel
theorem dX1_tileOf_34 : decode cX1_tileOf 34 = .ok (.iconst 0, 1) := by decide +kernel
theorem dX1_tileOf_35 : decode cX1_tileOf 35 = .ok (.invokevirtual 55, 3) := by decide +kernel
theorem dX1_tileOf_38 : decode cX1_tileOf 38 = .ok (.ifCond .eq 5, 3) := by decide +kernel
theorem dX1_tileOf_41 : decode cX1_tileOf 41 = .ok (.iconst 0, 1) := by decide +kernel
theorem dX1_tileOf_42 : decode cX1_tileOf 42 = .ok (.ireturn, 1) := by decide +kernel
theorem dX1_tileOf_43 : decode cX1_tileOf 43 = .ok (.iconst 0, 1) := by decide +kernel
theorem dX1_tileOf_44 : decode cX1_tileOf 44 = .ok (.istore_n 3, 1) := by decide +kernel
theorem dX1_tileOf_45 : decode cX1_tileOf 45 = .ok (.iload_n 1, 1) := by decide +kernel
theorem dX1_tileOf_46 : decode cX1_tileOf 46 = .ok (.aload_n 0, 1) := by decide +kernel
theorem dX1_tileOf_47 : decode cX1_tileOf 47 = .ok (.iload_n 3, 1) := by decide +kernel
theorem dX1_tileOf_48 : decode cX1_tileOf 48 = .ok (.iconst 2, 1) := by decide +kernel
theorem dX1_tileOf_49 : decode cX1_tileOf 49 = .ok (.invokevirtual 69, 3) := by decide +kernel
theorem dX1_tileOf_52 : decode cX1_tileOf 52 = .ok (.if_icmp .ge 33, 3) := by decide +kernel
theorem dX1_tileOf_55 : decode cX1_tileOf 55 = .ok (.iload_n 2, 1) := by decide +kernel
theorem dX1_tileOf_56 : decode cX1_tileOf 56 = .ok (.aload_n 0, 1) := by decide +kernel
theorem dX1_tileOf_57 : decode cX1_tileOf 57 = .ok (.iload_n 3, 1) := by decide +kernel
theorem dX1_tileOf_58 : decode cX1_tileOf 58 = .ok (.iconst 3, 1) := by decide +kernel
theorem dX1_tileOf_59 : decode cX1_tileOf 59 = .ok (.invokevirtual 69, 3) := by decide +kernel
theorem dX1_tileOf_62 : decode cX1_tileOf 62 = .ok (.if_icmp .ge 23, 3) := by decide +kernel
theorem dX1_tileOf_65 : decode cX1_tileOf 65 = .ok (.iload_n 1, 1) := by decide +kernel
theorem dX1_tileOf_66 : decode cX1_tileOf 66 = .ok (.aload_n 0, 1) := by decide +kernel
theorem dX1_tileOf_67 : decode cX1_tileOf 67 = .ok (.iload_n 3, 1) := by decide +kernel
theorem dX1_tileOf_68 : decode cX1_tileOf 68 = .ok (.iconst 0, 1) := by decide +kernel
theorem dX1_tileOf_69 : decode cX1_tileOf 69 = .ok (.invokevirtual 69, 3) := by decide +kernel
theorem dX1_tileOf_72 : decode cX1_tileOf 72 = .ok (.if_icmp .lt 13, 3) := by decide +kernel
theorem dX1_tileOf_75 : decode cX1_tileOf 75 = .ok (.iload_n 2, 1) := by decide +kernel
theorem dX1_tileOf_76 : decode cX1_tileOf 76 = .ok (.aload_n 0, 1) := by decide +kernel
theorem dX1_tileOf_77 : decode cX1_tileOf 77 = .ok (.iload_n 3, 1) := by decide +kernel
theorem dX1_tileOf_78 : decode cX1_tileOf 78 = .ok (.iconst 1, 1) := by decide +kernel
theorem dX1_tileOf_79 : decode cX1_tileOf 79 = .ok (.invokevirtual 69, 3) := by decide +kernel
theorem dX1_tileOf_82 : decode cX1_tileOf 82 = .ok (.if_icmp .ge 9, 3) := by decide +kernel
theorem dX1_tileOf_85 : decode cX1_tileOf 85 = .ok (.iinc 3 1, 3) := by decide +kernel
theorem dX1_tileOf_88 : decode cX1_tileOf 88 = .ok (.goto (-43), 3) := by decide +kernel
theorem dX1_tileOf_91 : decode cX1_tileOf 91 = .ok (.iload_n 3, 1) := by decide +kernel
theorem dX1_tileOf_92 : decode cX1_tileOf 92 = .ok (.ireturn, 1) := by decide +kernel
theorem dX1_count_0 : decode cX1_count 0 = .ok (.aload_n 0, 1) := by decide +kernel
theorem dX1_count_1 : decode cX1_count 1 = .ok (.iload_n 1, 1) := by decide +kernel
theorem dX1_count_2 : decode cX1_count 2 = .ok (.iconst 0, 1) := by decide +kernel
theorem dX1_count_3 : decode cX1_count 3 = .ok (.iconst 4, 1) := by decide +kernel
theorem dX1_count_4 : decode cX1_count 4 = .ok (.invokestatic 51, 3) := by decide +kernel
theorem dX1_count_7 : decode cX1_count 7 = .ok (.ifCond .ne 7, 3) := by decide +kernel
theorem dX1_count_10 : decode cX1_count 10 = .ok (.iconst 1, 1) := by decide +kernel
theorem dX1_count_11 : decode cX1_count 11 = .ok (.goto 4, 3) := by decide +kernel
theorem dX1_count_14 : decode cX1_count 14 = .ok (.iconst 0, 1) := by decide +kernel
theorem dX1_count_15 : decode cX1_count 15 = .ok (.iconst 0, 1) := by decide +kernel
theorem dX1_count_16 : decode cX1_count 16 = .ok (.invokevirtual 55, 3) := by decide +kernel
theorem dX1_count_19 : decode cX1_count 19 = .ok (.ifCond .eq 5, 3) := by decide +kernel
theorem dX1_count_22 : decode cX1_count 22 = .ok (.iconst 0, 1) := by decide +kernel
theorem dX1_count_23 : decode cX1_count 23 = .ok (.ireturn, 1) := by decide +kernel
theorem dX1_count_24 : decode cX1_count 24 = .ok (.iload_n 1, 1) := by decide +kernel
theorem dX1_count_25 : decode cX1_count 25 = .ok (.tableswitch 51 0 3 #[31, 36, 41, 46], 31) := by decide +kernel
theorem dX1_count_56 : decode cX1_count 56 = .ok (.aload_n 0, 1) := by decide +kernel
theorem dX1_count_57 : decode cX1_count 57 = .ok (.getfield 59, 3) := by decide +kernel
theorem dX1_count_60 : decode cX1_count 60 = .ok (.ireturn, 1) := by decide +kernel
theorem dX1_count_61 : decode cX1_count 61 = .ok (.aload_n 0, 1) := by decide +kernel
theorem dX1_count_62 : decode cX1_count 62 = .ok (.getfield 62, 3) := by decide +kernel
theorem dX1_count_65 : decode cX1_count 65 = .ok (.ireturn, 1) := by decide +kernel
theorem dX1_count_66 : decode cX1_count 66 = .ok (.aload_n 0, 1) := by decide +kernel
theorem dX1_count_67 : decode cX1_count 67 = .ok (.getfield 19, 3) := by decide +kernel
theorem dX1_count_70 : decode cX1_count 70 = .ok (.ireturn, 1) := by decide +kernel
theorem dX1_count_71 : decode cX1_count 71 = .ok (.aload_n 0, 1) := by decide +kernel
theorem dX1_count_72 : decode cX1_count 72 = .ok (.invokevirtual 48, 3) := by decide +kernel
theorem dX1_count_75 : decode cX1_count 75 = .ok (.ireturn, 1) := by decide +kernel
theorem dX1_count_76 : decode cX1_count 76 = .ok (.aload_n 0, 1) := by decide +kernel
theorem dX1_count_77 : decode cX1_count 77 = .ok (.getfield 38, 3) := by decide +kernel
theorem dX1_count_80 : decode cX1_count 80 = .ok (.ireturn, 1) := by decide +kernel
end
section
abbrev wsL_field : List Cond := Cond.codeWith yL_field cL_field 7 (some .int) [(0, 14, 17, 13)] :: gb
abbrev wsL_put : List Cond := Cond.codeWith yL_put cL_put 8 (some .int) [(0, 16, 19, 19)] :: gb
abbrev wsL_open : List Cond := Cond.codeWith yL_open cL_open 4 (some .int) [(0, 9, 12, 13)] :: gb
abbrev wsL_next : List Cond := Cond.codeWith yL_next cL_next 3 (some .int) [(0, 8, 11, 19)] :: gb
abbrev wsL_item : List Cond := Cond.codeWith yL_item cL_item 5 (some .int) [(0, 10, 13, 33), (0, 10, 17, 13)] :: gb
abbrev wsL_tile : List Cond := Cond.codeWith yL_tile cL_tile 5 (some .int) [(0, 10, 13, 13)] :: gb
abbrev wsL_tileOf : List Cond := Cond.codeWith yL_tileOf cL_tileOf 5 (some .int) [(0, 10, 13, 13)] :: gb
abbrev wsL_count : List Cond := Cond.codeWith yL_count cL_count 4 (some .int) [(0, 9, 12, 13)] :: gb
theorem dL_field_0 : decode cL_field 0 = .ok (.aload 5, 2) := by decide +kernel
theorem dL_field_2 : decode cL_field 2 = .ok (.iconst 0, 1) := by decide +kernel
theorem dL_field_3 : decode cL_field 3 = .ok (.aload_n 0, 1) := by decide +kernel
theorem dL_field_4 : decode cL_field 4 = .ok (.iload_n 1, 1) := by decide +kernel
theorem dL_field_5 : decode cL_field 5 = .ok (.iload_n 2, 1) := by decide +kernel
theorem dL_field_6 : decode cL_field 6 = .ok (.iload_n 3, 1) := by decide +kernel
theorem dL_field_7 : decode cL_field 7 = .ok (.iload 4, 2) := by decide +kernel
theorem dL_field_9 : decode cL_field 9 = .ok (.invokevirtual 7, 3) := by decide +kernel
theorem dL_field_12 : decode cL_field 12 = .ok (.i2l, 1) := by decide +kernel
theorem dL_field_13 : decode cL_field 13 = .ok (.lastore, 1) := by decide +kernel
theorem dL_field_14 : decode cL_field 14 = .ok (.goto 7, 3) := by decide +kernel
theorem dL_field_17 : decode cL_field 17 = .ok (.astore 6, 2) := by decide +kernel
theorem dL_field_19 : decode cL_field 19 = .ok (.iconst 1, 1) := by decide +kernel
theorem dL_field_20 : decode cL_field 20 = .ok (.ireturn, 1) := by decide +kernel
theorem dL_field_21 : decode cL_field 21 = .ok (.iconst 0, 1) := by decide +kernel
theorem dL_field_22 : decode cL_field 22 = .ok (.ireturn, 1) := by decide +kernel
theorem dL_put_0 : decode cL_put 0 = .ok (.aload 6, 2) := by decide +kernel
theorem dL_put_2 : decode cL_put 2 = .ok (.iconst 0, 1) := by decide +kernel
theorem dL_put_3 : decode cL_put 3 = .ok (.aload_n 0, 1) := by decide +kernel
theorem dL_put_4 : decode cL_put 4 = .ok (.iload_n 1, 1) := by decide +kernel
theorem dL_put_5 : decode cL_put 5 = .ok (.iload_n 2, 1) := by decide +kernel
theorem dL_put_6 : decode cL_put 6 = .ok (.iload_n 3, 1) := by decide +kernel
theorem dL_put_7 : decode cL_put 7 = .ok (.iload 4, 2) := by decide +kernel
theorem dL_put_9 : decode cL_put 9 = .ok (.iload 5, 2) := by decide +kernel
theorem dL_put_11 : decode cL_put 11 = .ok (.invokevirtual 15, 3) := by decide +kernel
theorem dL_put_14 : decode cL_put 14 = .ok (.i2l, 1) := by decide +kernel
theorem dL_put_15 : decode cL_put 15 = .ok (.lastore, 1) := by decide +kernel
theorem dL_put_16 : decode cL_put 16 = .ok (.goto 7, 3) := by decide +kernel
theorem dL_put_19 : decode cL_put 19 = .ok (.astore 7, 2) := by decide +kernel
theorem dL_put_21 : decode cL_put 21 = .ok (.iconst 1, 1) := by decide +kernel
theorem dL_put_22 : decode cL_put 22 = .ok (.ireturn, 1) := by decide +kernel
theorem dL_put_23 : decode cL_put 23 = .ok (.iconst 0, 1) := by decide +kernel
theorem dL_put_24 : decode cL_put 24 = .ok (.ireturn, 1) := by decide +kernel
theorem dL_open_0 : decode cL_open 0 = .ok (.aload_n 2, 1) := by decide +kernel
theorem dL_open_1 : decode cL_open 1 = .ok (.iconst 0, 1) := by decide +kernel
theorem dL_open_2 : decode cL_open 2 = .ok (.aload_n 0, 1) := by decide +kernel
theorem dL_open_3 : decode cL_open 3 = .ok (.iload_n 1, 1) := by decide +kernel
theorem dL_open_4 : decode cL_open 4 = .ok (.invokevirtual 21, 3) := by decide +kernel
theorem dL_open_7 : decode cL_open 7 = .ok (.i2l, 1) := by decide +kernel
theorem dL_open_8 : decode cL_open 8 = .ok (.lastore, 1) := by decide +kernel
theorem dL_open_9 : decode cL_open 9 = .ok (.goto 6, 3) := by decide +kernel
theorem dL_open_12 : decode cL_open 12 = .ok (.astore_n 3, 1) := by decide +kernel
theorem dL_open_13 : decode cL_open 13 = .ok (.iconst 1, 1) := by decide +kernel
theorem dL_open_14 : decode cL_open 14 = .ok (.ireturn, 1) := by decide +kernel
theorem dL_open_15 : decode cL_open 15 = .ok (.iconst 0, 1) := by decide +kernel
theorem dL_open_16 : decode cL_open 16 = .ok (.ireturn, 1) := by decide +kernel
theorem dL_next_0 : decode cL_next 0 = .ok (.aload_n 1, 1) := by decide +kernel
theorem dL_next_1 : decode cL_next 1 = .ok (.iconst 0, 1) := by decide +kernel
theorem dL_next_2 : decode cL_next 2 = .ok (.aload_n 0, 1) := by decide +kernel
theorem dL_next_3 : decode cL_next 3 = .ok (.invokevirtual 25, 3) := by decide +kernel
theorem dL_next_6 : decode cL_next 6 = .ok (.i2l, 1) := by decide +kernel
theorem dL_next_7 : decode cL_next 7 = .ok (.lastore, 1) := by decide +kernel
theorem dL_next_8 : decode cL_next 8 = .ok (.goto 6, 3) := by decide +kernel
theorem dL_next_11 : decode cL_next 11 = .ok (.astore_n 2, 1) := by decide +kernel
theorem dL_next_12 : decode cL_next 12 = .ok (.iconst 1, 1) := by decide +kernel
theorem dL_next_13 : decode cL_next 13 = .ok (.ireturn, 1) := by decide +kernel
theorem dL_next_14 : decode cL_next 14 = .ok (.iconst 0, 1) := by decide +kernel
theorem dL_next_15 : decode cL_next 15 = .ok (.ireturn, 1) := by decide +kernel
theorem dL_item_0 : decode cL_item 0 = .ok (.aload_n 3, 1) := by decide +kernel
theorem dL_item_1 : decode cL_item 1 = .ok (.iconst 0, 1) := by decide +kernel
theorem dL_item_2 : decode cL_item 2 = .ok (.aload_n 0, 1) := by decide +kernel
theorem dL_item_3 : decode cL_item 3 = .ok (.iload_n 1, 1) := by decide +kernel
theorem dL_item_4 : decode cL_item 4 = .ok (.iload_n 2, 1) := by decide +kernel
theorem dL_item_5 : decode cL_item 5 = .ok (.invokevirtual 29, 3) := by decide +kernel
theorem dL_item_8 : decode cL_item 8 = .ok (.i2l, 1) := by decide +kernel
theorem dL_item_9 : decode cL_item 9 = .ok (.lastore, 1) := by decide +kernel
theorem dL_item_10 : decode cL_item 10 = .ok (.goto 11, 3) := by decide +kernel
theorem dL_item_13 : decode cL_item 13 = .ok (.astore 4, 2) := by decide +kernel
theorem dL_item_15 : decode cL_item 15 = .ok (.iconst 1, 1) := by decide +kernel
theorem dL_item_16 : decode cL_item 16 = .ok (.ireturn, 1) := by decide +kernel
theorem dL_item_17 : decode cL_item 17 = .ok (.astore 4, 2) := by decide +kernel
theorem dL_item_19 : decode cL_item 19 = .ok (.iconst 2, 1) := by decide +kernel
theorem dL_item_20 : decode cL_item 20 = .ok (.ireturn, 1) := by decide +kernel
theorem dL_item_21 : decode cL_item 21 = .ok (.iconst 0, 1) := by decide +kernel
theorem dL_item_22 : decode cL_item 22 = .ok (.ireturn, 1) := by decide +kernel
theorem dL_tile_0 : decode cL_tile 0 = .ok (.aload_n 3, 1) := by decide +kernel
theorem dL_tile_1 : decode cL_tile 1 = .ok (.iconst 0, 1) := by decide +kernel
theorem dL_tile_2 : decode cL_tile 2 = .ok (.aload_n 0, 1) := by decide +kernel
theorem dL_tile_3 : decode cL_tile 3 = .ok (.iload_n 1, 1) := by decide +kernel
theorem dL_tile_4 : decode cL_tile 4 = .ok (.iload_n 2, 1) := by decide +kernel
theorem dL_tile_5 : decode cL_tile 5 = .ok (.invokevirtual 35, 3) := by decide +kernel
theorem dL_tile_8 : decode cL_tile 8 = .ok (.i2l, 1) := by decide +kernel
theorem dL_tile_9 : decode cL_tile 9 = .ok (.lastore, 1) := by decide +kernel
theorem dL_tile_10 : decode cL_tile 10 = .ok (.goto 7, 3) := by decide +kernel
theorem dL_tile_13 : decode cL_tile 13 = .ok (.astore 4, 2) := by decide +kernel
theorem dL_tile_15 : decode cL_tile 15 = .ok (.iconst 1, 1) := by decide +kernel
theorem dL_tile_16 : decode cL_tile 16 = .ok (.ireturn, 1) := by decide +kernel
theorem dL_tile_17 : decode cL_tile 17 = .ok (.iconst 0, 1) := by decide +kernel
theorem dL_tile_18 : decode cL_tile 18 = .ok (.ireturn, 1) := by decide +kernel
theorem dL_tileOf_0 : decode cL_tileOf 0 = .ok (.aload_n 3, 1) := by decide +kernel
theorem dL_tileOf_1 : decode cL_tileOf 1 = .ok (.iconst 0, 1) := by decide +kernel
theorem dL_tileOf_2 : decode cL_tileOf 2 = .ok (.aload_n 0, 1) := by decide +kernel
theorem dL_tileOf_3 : decode cL_tileOf 3 = .ok (.iload_n 1, 1) := by decide +kernel
theorem dL_tileOf_4 : decode cL_tileOf 4 = .ok (.iload_n 2, 1) := by decide +kernel
theorem dL_tileOf_5 : decode cL_tileOf 5 = .ok (.invokevirtual 38, 3) := by decide +kernel
theorem dL_tileOf_8 : decode cL_tileOf 8 = .ok (.i2l, 1) := by decide +kernel
theorem dL_tileOf_9 : decode cL_tileOf 9 = .ok (.lastore, 1) := by decide +kernel
theorem dL_tileOf_10 : decode cL_tileOf 10 = .ok (.goto 7, 3) := by decide +kernel
theorem dL_tileOf_13 : decode cL_tileOf 13 = .ok (.astore 4, 2) := by decide +kernel
theorem dL_tileOf_15 : decode cL_tileOf 15 = .ok (.iconst 1, 1) := by decide +kernel
theorem dL_tileOf_16 : decode cL_tileOf 16 = .ok (.ireturn, 1) := by decide +kernel
theorem dL_tileOf_17 : decode cL_tileOf 17 = .ok (.iconst 0, 1) := by decide +kernel
theorem dL_tileOf_18 : decode cL_tileOf 18 = .ok (.ireturn, 1) := by decide +kernel
theorem dL_count_0 : decode cL_count 0 = .ok (.aload_n 2, 1) := by decide +kernel
theorem dL_count_1 : decode cL_count 1 = .ok (.iconst 0, 1) := by decide +kernel
theorem dL_count_2 : decode cL_count 2 = .ok (.aload_n 0, 1) := by decide +kernel
theorem dL_count_3 : decode cL_count 3 = .ok (.iload_n 1, 1) := by decide +kernel
theorem dL_count_4 : decode cL_count 4 = .ok (.invokevirtual 41, 3) := by decide +kernel
theorem dL_count_7 : decode cL_count 7 = .ok (.i2l, 1) := by decide +kernel
theorem dL_count_8 : decode cL_count 8 = .ok (.lastore, 1) := by decide +kernel
theorem dL_count_9 : decode cL_count 9 = .ok (.goto 6, 3) := by decide +kernel
theorem dL_count_12 : decode cL_count 12 = .ok (.astore_n 3, 1) := by decide +kernel
theorem dL_count_13 : decode cL_count 13 = .ok (.iconst 1, 1) := by decide +kernel
theorem dL_count_14 : decode cL_count 14 = .ok (.ireturn, 1) := by decide +kernel
theorem dL_count_15 : decode cL_count 15 = .ok (.iconst 0, 1) := by decide +kernel
theorem dL_count_16 : decode cL_count 16 = .ok (.ireturn, 1) := by decide +kernel
theorem dL_law_0 : decode code 0 = .ok (.new 8, 3) := by decide +kernel
theorem dL_law_3 : decode code 3 = .ok (.dup, 1) := by decide +kernel
theorem dL_law_4 : decode code 4 = .ok (.invokespecial 44, 3) := by decide +kernel
theorem dL_law_7 : decode code 7 = .ok (.astore_n 1, 1) := by decide +kernel
theorem dL_law_8 : decode code 8 = .ok (.new 45, 3) := by decide +kernel
theorem dL_law_11 : decode code 11 = .ok (.dup, 1) := by decide +kernel
theorem dL_law_12 : decode code 12 = .ok (.invokespecial 47, 3) := by decide +kernel
theorem dL_law_15 : decode code 15 = .ok (.astore_n 2, 1) := by decide +kernel
theorem dL_law_16 : decode code 16 = .ok (.iconst 1, 1) := by decide +kernel
theorem dL_law_17 : decode code 17 = .ok (.newarray .long, 2) := by decide +kernel
theorem dL_law_19 : decode code 19 = .ok (.astore_n 3, 1) := by decide +kernel
theorem dL_law_20 : decode code 20 = .ok (.iconst 0, 1) := by decide +kernel
theorem dL_law_21 : decode code 21 = .ok (.istore 4, 2) := by decide +kernel
theorem dL_law_23 : decode code 23 = .ok (.iload 4, 2) := by decide +kernel
theorem dL_law_25 : decode code 25 = .ok (.aload_n 0, 1) := by decide +kernel
theorem dL_law_26 : decode code 26 = .ok (.arraylength, 1) := by decide +kernel
theorem dL_law_27 : decode code 27 = .ok (.bipush 6, 2) := by decide +kernel
theorem dL_law_29 : decode code 29 = .ok (.isub, 1) := by decide +kernel
theorem dL_law_30 : decode code 30 = .ok (.if_icmp .gt 635, 3) := by decide +kernel
theorem dL_law_33 : decode code 33 = .ok (.aload_n 0, 1) := by decide +kernel
theorem dL_law_34 : decode code 34 = .ok (.iload 4, 2) := by decide +kernel
theorem dL_law_36 : decode code 36 = .ok (.iaload, 1) := by decide +kernel
theorem dL_law_37 : decode code 37 = .ok (.bipush 15, 2) := by decide +kernel
theorem dL_law_39 : decode code 39 = .ok (.iand, 1) := by decide +kernel
theorem dL_law_40 : decode code 40 = .ok (.tableswitch 619 0 8 #[52, 144, 248, 259, 315, 359, 427, 495, 563], 52) := by decide +kernel
theorem dL_law_92 : decode code 92 = .ok (.aload_n 1, 1) := by decide +kernel
theorem dL_law_93 : decode code 93 = .ok (.aload_n 0, 1) := by decide +kernel
theorem dL_law_94 : decode code 94 = .ok (.iload 4, 2) := by decide +kernel
theorem dL_law_96 : decode code 96 = .ok (.iconst 1, 1) := by decide +kernel
theorem dL_law_97 : decode code 97 = .ok (.iadd, 1) := by decide +kernel
theorem dL_law_98 : decode code 98 = .ok (.iaload, 1) := by decide +kernel
theorem dL_law_99 : decode code 99 = .ok (.aload_n 0, 1) := by decide +kernel
theorem dL_law_100 : decode code 100 = .ok (.iload 4, 2) := by decide +kernel
theorem dL_law_102 : decode code 102 = .ok (.iconst 2, 1) := by decide +kernel
theorem dL_law_103 : decode code 103 = .ok (.iadd, 1) := by decide +kernel
theorem dL_law_104 : decode code 104 = .ok (.iaload, 1) := by decide +kernel
theorem dL_law_105 : decode code 105 = .ok (.aload_n 0, 1) := by decide +kernel
theorem dL_law_106 : decode code 106 = .ok (.iload 4, 2) := by decide +kernel
theorem dL_law_108 : decode code 108 = .ok (.iconst 3, 1) := by decide +kernel
theorem dL_law_109 : decode code 109 = .ok (.iadd, 1) := by decide +kernel
theorem dL_law_110 : decode code 110 = .ok (.iaload, 1) := by decide +kernel
theorem dL_law_111 : decode code 111 = .ok (.aload_n 0, 1) := by decide +kernel
theorem dL_law_112 : decode code 112 = .ok (.iload 4, 2) := by decide +kernel
theorem dL_law_114 : decode code 114 = .ok (.iconst 4, 1) := by decide +kernel
theorem dL_law_115 : decode code 115 = .ok (.iadd, 1) := by decide +kernel
theorem dL_law_116 : decode code 116 = .ok (.iaload, 1) := by decide +kernel
theorem dL_law_117 : decode code 117 = .ok (.aload_n 3, 1) := by decide +kernel
theorem dL_law_118 : decode code 118 = .ok (.invokestatic 48, 3) := by decide +kernel
theorem dL_law_121 : decode code 121 = .ok (.istore 5, 2) := by decide +kernel
theorem dL_law_123 : decode code 123 = .ok (.aload_n 2, 1) := by decide +kernel
theorem dL_law_124 : decode code 124 = .ok (.aload_n 0, 1) := by decide +kernel
theorem dL_law_125 : decode code 125 = .ok (.iload 4, 2) := by decide +kernel
theorem dL_law_127 : decode code 127 = .ok (.iconst 1, 1) := by decide +kernel
theorem dL_law_128 : decode code 128 = .ok (.iadd, 1) := by decide +kernel
theorem dL_law_129 : decode code 129 = .ok (.iaload, 1) := by decide +kernel
theorem dL_law_130 : decode code 130 = .ok (.aload_n 0, 1) := by decide +kernel
theorem dL_law_131 : decode code 131 = .ok (.iload 4, 2) := by decide +kernel
theorem dL_law_133 : decode code 133 = .ok (.iconst 2, 1) := by decide +kernel
theorem dL_law_134 : decode code 134 = .ok (.iadd, 1) := by decide +kernel
theorem dL_law_135 : decode code 135 = .ok (.iaload, 1) := by decide +kernel
theorem dL_law_136 : decode code 136 = .ok (.aload_n 0, 1) := by decide +kernel
theorem dL_law_137 : decode code 137 = .ok (.iload 4, 2) := by decide +kernel
theorem dL_law_139 : decode code 139 = .ok (.iconst 3, 1) := by decide +kernel
theorem dL_law_140 : decode code 140 = .ok (.iadd, 1) := by decide +kernel
theorem dL_law_141 : decode code 141 = .ok (.iaload, 1) := by decide +kernel
theorem dL_law_142 : decode code 142 = .ok (.aload_n 0, 1) := by decide +kernel
theorem dL_law_143 : decode code 143 = .ok (.iload 4, 2) := by decide +kernel
theorem dL_law_145 : decode code 145 = .ok (.iconst 4, 1) := by decide +kernel
theorem dL_law_146 : decode code 146 = .ok (.iadd, 1) := by decide +kernel
theorem dL_law_147 : decode code 147 = .ok (.iaload, 1) := by decide +kernel
theorem dL_law_148 : decode code 148 = .ok (.invokevirtual 53, 3) := by decide +kernel
theorem dL_law_151 : decode code 151 = .ok (.istore 6, 2) := by decide +kernel
theorem dL_law_153 : decode code 153 = .ok (.aload_n 2, 1) := by decide +kernel
theorem dL_law_154 : decode code 154 = .ok (.invokevirtual 54, 3) := by decide +kernel
theorem dL_law_157 : decode code 157 = .ok (.iload 5, 2) := by decide +kernel
theorem dL_law_159 : decode code 159 = .ok (.if_icmp .eq 5, 3) := by decide +kernel
theorem dL_law_162 : decode code 162 = .ok (.iconst 0, 1) := by decide +kernel
theorem dL_law_163 : decode code 163 = .ok (.ireturn, 1) := by decide +kernel
theorem dL_law_164 : decode code 164 = .ok (.iload 5, 2) := by decide +kernel
theorem dL_law_166 : decode code 166 = .ok (.ifCond .ne 15, 3) := by decide +kernel
theorem dL_law_169 : decode code 169 = .ok (.aload_n 3, 1) := by decide +kernel
theorem dL_law_170 : decode code 170 = .ok (.iconst 0, 1) := by decide +kernel
theorem dL_law_171 : decode code 171 = .ok (.laload, 1) := by decide +kernel
theorem dL_law_172 : decode code 172 = .ok (.iload 6, 2) := by decide +kernel
theorem dL_law_174 : decode code 174 = .ok (.i2l, 1) := by decide +kernel
theorem dL_law_175 : decode code 175 = .ok (.lcmp, 1) := by decide +kernel
theorem dL_law_176 : decode code 176 = .ok (.ifCond .eq 5, 3) := by decide +kernel
theorem dL_law_179 : decode code 179 = .ok (.iconst 0, 1) := by decide +kernel
theorem dL_law_180 : decode code 180 = .ok (.ireturn, 1) := by decide +kernel
theorem dL_law_181 : decode code 181 = .ok (.goto 478, 3) := by decide +kernel
theorem dL_law_184 : decode code 184 = .ok (.aload_n 1, 1) := by decide +kernel
theorem dL_law_185 : decode code 185 = .ok (.aload_n 0, 1) := by decide +kernel
theorem dL_law_186 : decode code 186 = .ok (.iload 4, 2) := by decide +kernel
theorem dL_law_188 : decode code 188 = .ok (.iconst 1, 1) := by decide +kernel
theorem dL_law_189 : decode code 189 = .ok (.iadd, 1) := by decide +kernel
theorem dL_law_190 : decode code 190 = .ok (.iaload, 1) := by decide +kernel
theorem dL_law_191 : decode code 191 = .ok (.aload_n 0, 1) := by decide +kernel
theorem dL_law_192 : decode code 192 = .ok (.iload 4, 2) := by decide +kernel
theorem dL_law_194 : decode code 194 = .ok (.iconst 2, 1) := by decide +kernel
theorem dL_law_195 : decode code 195 = .ok (.iadd, 1) := by decide +kernel
theorem dL_law_196 : decode code 196 = .ok (.iaload, 1) := by decide +kernel
theorem dL_law_197 : decode code 197 = .ok (.aload_n 0, 1) := by decide +kernel
theorem dL_law_198 : decode code 198 = .ok (.iload 4, 2) := by decide +kernel
theorem dL_law_200 : decode code 200 = .ok (.iconst 3, 1) := by decide +kernel
theorem dL_law_201 : decode code 201 = .ok (.iadd, 1) := by decide +kernel
theorem dL_law_202 : decode code 202 = .ok (.iaload, 1) := by decide +kernel
theorem dL_law_203 : decode code 203 = .ok (.aload_n 0, 1) := by decide +kernel
theorem dL_law_204 : decode code 204 = .ok (.iload 4, 2) := by decide +kernel
theorem dL_law_206 : decode code 206 = .ok (.iconst 4, 1) := by decide +kernel
theorem dL_law_207 : decode code 207 = .ok (.iadd, 1) := by decide +kernel
theorem dL_law_208 : decode code 208 = .ok (.iaload, 1) := by decide +kernel
theorem dL_law_209 : decode code 209 = .ok (.aload_n 0, 1) := by decide +kernel
theorem dL_law_210 : decode code 210 = .ok (.iload 4, 2) := by decide +kernel
theorem dL_law_212 : decode code 212 = .ok (.iconst 5, 1) := by decide +kernel
theorem dL_law_213 : decode code 213 = .ok (.iadd, 1) := by decide +kernel
theorem dL_law_214 : decode code 214 = .ok (.iaload, 1) := by decide +kernel
theorem dL_law_215 : decode code 215 = .ok (.aload_n 3, 1) := by decide +kernel
theorem dL_law_216 : decode code 216 = .ok (.invokestatic 57, 3) := by decide +kernel
theorem dL_law_219 : decode code 219 = .ok (.istore 5, 2) := by decide +kernel
theorem dL_law_221 : decode code 221 = .ok (.aload_n 2, 1) := by decide +kernel
theorem dL_law_222 : decode code 222 = .ok (.aload_n 0, 1) := by decide +kernel
theorem dL_law_223 : decode code 223 = .ok (.iload 4, 2) := by decide +kernel
theorem dL_law_225 : decode code 225 = .ok (.iconst 1, 1) := by decide +kernel
theorem dL_law_226 : decode code 226 = .ok (.iadd, 1) := by decide +kernel
theorem dL_law_227 : decode code 227 = .ok (.iaload, 1) := by decide +kernel
theorem dL_law_228 : decode code 228 = .ok (.aload_n 0, 1) := by decide +kernel
theorem dL_law_229 : decode code 229 = .ok (.iload 4, 2) := by decide +kernel
theorem dL_law_231 : decode code 231 = .ok (.iconst 2, 1) := by decide +kernel
theorem dL_law_232 : decode code 232 = .ok (.iadd, 1) := by decide +kernel
theorem dL_law_233 : decode code 233 = .ok (.iaload, 1) := by decide +kernel
theorem dL_law_234 : decode code 234 = .ok (.aload_n 0, 1) := by decide +kernel
theorem dL_law_235 : decode code 235 = .ok (.iload 4, 2) := by decide +kernel
theorem dL_law_237 : decode code 237 = .ok (.iconst 3, 1) := by decide +kernel
theorem dL_law_238 : decode code 238 = .ok (.iadd, 1) := by decide +kernel
theorem dL_law_239 : decode code 239 = .ok (.iaload, 1) := by decide +kernel
theorem dL_law_240 : decode code 240 = .ok (.aload_n 0, 1) := by decide +kernel
theorem dL_law_241 : decode code 241 = .ok (.iload 4, 2) := by decide +kernel
theorem dL_law_243 : decode code 243 = .ok (.iconst 4, 1) := by decide +kernel
theorem dL_law_244 : decode code 244 = .ok (.iadd, 1) := by decide +kernel
theorem dL_law_245 : decode code 245 = .ok (.iaload, 1) := by decide +kernel
theorem dL_law_246 : decode code 246 = .ok (.aload_n 0, 1) := by decide +kernel
theorem dL_law_247 : decode code 247 = .ok (.iload 4, 2) := by decide +kernel
theorem dL_law_249 : decode code 249 = .ok (.iconst 5, 1) := by decide +kernel
theorem dL_law_250 : decode code 250 = .ok (.iadd, 1) := by decide +kernel
theorem dL_law_251 : decode code 251 = .ok (.iaload, 1) := by decide +kernel
theorem dL_law_252 : decode code 252 = .ok (.invokevirtual 60, 3) := by decide +kernel
theorem dL_law_255 : decode code 255 = .ok (.istore 6, 2) := by decide +kernel
theorem dL_law_257 : decode code 257 = .ok (.aload_n 2, 1) := by decide +kernel
theorem dL_law_258 : decode code 258 = .ok (.invokevirtual 54, 3) := by decide +kernel
theorem dL_law_261 : decode code 261 = .ok (.iload 5, 2) := by decide +kernel
theorem dL_law_263 : decode code 263 = .ok (.if_icmp .eq 5, 3) := by decide +kernel
theorem dL_law_266 : decode code 266 = .ok (.iconst 0, 1) := by decide +kernel
theorem dL_law_267 : decode code 267 = .ok (.ireturn, 1) := by decide +kernel
theorem dL_law_268 : decode code 268 = .ok (.iload 5, 2) := by decide +kernel
theorem dL_law_270 : decode code 270 = .ok (.ifCond .ne 15, 3) := by decide +kernel
theorem dL_law_273 : decode code 273 = .ok (.aload_n 3, 1) := by decide +kernel
theorem dL_law_274 : decode code 274 = .ok (.iconst 0, 1) := by decide +kernel
theorem dL_law_275 : decode code 275 = .ok (.laload, 1) := by decide +kernel
theorem dL_law_276 : decode code 276 = .ok (.iload 6, 2) := by decide +kernel
theorem dL_law_278 : decode code 278 = .ok (.i2l, 1) := by decide +kernel
theorem dL_law_279 : decode code 279 = .ok (.lcmp, 1) := by decide +kernel
theorem dL_law_280 : decode code 280 = .ok (.ifCond .eq 5, 3) := by decide +kernel
theorem dL_law_283 : decode code 283 = .ok (.iconst 0, 1) := by decide +kernel
theorem dL_law_284 : decode code 284 = .ok (.ireturn, 1) := by decide +kernel
theorem dL_law_285 : decode code 285 = .ok (.goto 374, 3) := by decide +kernel
theorem dL_law_288 : decode code 288 = .ok (.aload_n 1, 1) := by decide +kernel
theorem dL_law_289 : decode code 289 = .ok (.invokevirtual 61, 3) := by decide +kernel
theorem dL_law_292 : decode code 292 = .ok (.aload_n 2, 1) := by decide +kernel
theorem dL_law_293 : decode code 293 = .ok (.invokevirtual 64, 3) := by decide +kernel
theorem dL_law_296 : decode code 296 = .ok (.goto 363, 3) := by decide +kernel
theorem dL_law_299 : decode code 299 = .ok (.aload_n 1, 1) := by decide +kernel
theorem dL_law_300 : decode code 300 = .ok (.aload_n 0, 1) := by decide +kernel
theorem dL_law_301 : decode code 301 = .ok (.iload 4, 2) := by decide +kernel
theorem dL_law_303 : decode code 303 = .ok (.iconst 1, 1) := by decide +kernel
theorem dL_law_304 : decode code 304 = .ok (.iadd, 1) := by decide +kernel
theorem dL_law_305 : decode code 305 = .ok (.iaload, 1) := by decide +kernel
theorem dL_law_306 : decode code 306 = .ok (.aload_n 3, 1) := by decide +kernel
theorem dL_law_307 : decode code 307 = .ok (.invokestatic 65, 3) := by decide +kernel
theorem dL_law_310 : decode code 310 = .ok (.istore 5, 2) := by decide +kernel
theorem dL_law_312 : decode code 312 = .ok (.aload_n 2, 1) := by decide +kernel
theorem dL_law_313 : decode code 313 = .ok (.aload_n 0, 1) := by decide +kernel
theorem dL_law_314 : decode code 314 = .ok (.iload 4, 2) := by decide +kernel
theorem dL_law_316 : decode code 316 = .ok (.iconst 1, 1) := by decide +kernel
theorem dL_law_317 : decode code 317 = .ok (.iadd, 1) := by decide +kernel
theorem dL_law_318 : decode code 318 = .ok (.iaload, 1) := by decide +kernel
theorem dL_law_319 : decode code 319 = .ok (.invokevirtual 68, 3) := by decide +kernel
theorem dL_law_322 : decode code 322 = .ok (.istore 6, 2) := by decide +kernel
theorem dL_law_324 : decode code 324 = .ok (.aload_n 2, 1) := by decide +kernel
theorem dL_law_325 : decode code 325 = .ok (.invokevirtual 54, 3) := by decide +kernel
theorem dL_law_328 : decode code 328 = .ok (.iload 5, 2) := by decide +kernel
theorem dL_law_330 : decode code 330 = .ok (.if_icmp .eq 5, 3) := by decide +kernel
theorem dL_law_333 : decode code 333 = .ok (.iconst 0, 1) := by decide +kernel
theorem dL_law_334 : decode code 334 = .ok (.ireturn, 1) := by decide +kernel
theorem dL_law_335 : decode code 335 = .ok (.iload 5, 2) := by decide +kernel
theorem dL_law_337 : decode code 337 = .ok (.ifCond .ne 15, 3) := by decide +kernel
theorem dL_law_340 : decode code 340 = .ok (.aload_n 3, 1) := by decide +kernel
theorem dL_law_341 : decode code 341 = .ok (.iconst 0, 1) := by decide +kernel
theorem dL_law_342 : decode code 342 = .ok (.laload, 1) := by decide +kernel
theorem dL_law_343 : decode code 343 = .ok (.iload 6, 2) := by decide +kernel
theorem dL_law_345 : decode code 345 = .ok (.i2l, 1) := by decide +kernel
theorem dL_law_346 : decode code 346 = .ok (.lcmp, 1) := by decide +kernel
theorem dL_law_347 : decode code 347 = .ok (.ifCond .eq 5, 3) := by decide +kernel
theorem dL_law_350 : decode code 350 = .ok (.iconst 0, 1) := by decide +kernel
theorem dL_law_351 : decode code 351 = .ok (.ireturn, 1) := by decide +kernel
theorem dL_law_352 : decode code 352 = .ok (.goto 307, 3) := by decide +kernel
theorem dL_law_355 : decode code 355 = .ok (.aload_n 1, 1) := by decide +kernel
theorem dL_law_356 : decode code 356 = .ok (.aload_n 3, 1) := by decide +kernel
theorem dL_law_357 : decode code 357 = .ok (.invokestatic 69, 3) := by decide +kernel
theorem dL_law_360 : decode code 360 = .ok (.istore 5, 2) := by decide +kernel
theorem dL_law_362 : decode code 362 = .ok (.aload_n 2, 1) := by decide +kernel
theorem dL_law_363 : decode code 363 = .ok (.invokevirtual 72, 3) := by decide +kernel
theorem dL_law_366 : decode code 366 = .ok (.istore 6, 2) := by decide +kernel
theorem dL_law_368 : decode code 368 = .ok (.aload_n 2, 1) := by decide +kernel
theorem dL_law_369 : decode code 369 = .ok (.invokevirtual 54, 3) := by decide +kernel
theorem dL_law_372 : decode code 372 = .ok (.iload 5, 2) := by decide +kernel
theorem dL_law_374 : decode code 374 = .ok (.if_icmp .eq 5, 3) := by decide +kernel
theorem dL_law_377 : decode code 377 = .ok (.iconst 0, 1) := by decide +kernel
theorem dL_law_378 : decode code 378 = .ok (.ireturn, 1) := by decide +kernel
theorem dL_law_379 : decode code 379 = .ok (.iload 5, 2) := by decide +kernel
theorem dL_law_381 : decode code 381 = .ok (.ifCond .ne 15, 3) := by decide +kernel
theorem dL_law_384 : decode code 384 = .ok (.aload_n 3, 1) := by decide +kernel
theorem dL_law_385 : decode code 385 = .ok (.iconst 0, 1) := by decide +kernel
theorem dL_law_386 : decode code 386 = .ok (.laload, 1) := by decide +kernel
theorem dL_law_387 : decode code 387 = .ok (.iload 6, 2) := by decide +kernel
theorem dL_law_389 : decode code 389 = .ok (.i2l, 1) := by decide +kernel
theorem dL_law_390 : decode code 390 = .ok (.lcmp, 1) := by decide +kernel
theorem dL_law_391 : decode code 391 = .ok (.ifCond .eq 5, 3) := by decide +kernel
theorem dL_law_394 : decode code 394 = .ok (.iconst 0, 1) := by decide +kernel
theorem dL_law_395 : decode code 395 = .ok (.ireturn, 1) := by decide +kernel
theorem dL_law_396 : decode code 396 = .ok (.goto 263, 3) := by decide +kernel
theorem dL_law_399 : decode code 399 = .ok (.aload_n 1, 1) := by decide +kernel
theorem dL_law_400 : decode code 400 = .ok (.aload_n 0, 1) := by decide +kernel
theorem dL_law_401 : decode code 401 = .ok (.iload 4, 2) := by decide +kernel
theorem dL_law_403 : decode code 403 = .ok (.iconst 1, 1) := by decide +kernel
theorem dL_law_404 : decode code 404 = .ok (.iadd, 1) := by decide +kernel
theorem dL_law_405 : decode code 405 = .ok (.iaload, 1) := by decide +kernel
theorem dL_law_406 : decode code 406 = .ok (.aload_n 0, 1) := by decide +kernel
theorem dL_law_407 : decode code 407 = .ok (.iload 4, 2) := by decide +kernel
theorem dL_law_409 : decode code 409 = .ok (.iconst 2, 1) := by decide +kernel
theorem dL_law_410 : decode code 410 = .ok (.iadd, 1) := by decide +kernel
theorem dL_law_411 : decode code 411 = .ok (.iaload, 1) := by decide +kernel
theorem dL_law_412 : decode code 412 = .ok (.aload_n 3, 1) := by decide +kernel
theorem dL_law_413 : decode code 413 = .ok (.invokestatic 73, 3) := by decide +kernel
theorem dL_law_416 : decode code 416 = .ok (.istore 5, 2) := by decide +kernel
theorem dL_law_418 : decode code 418 = .ok (.aload_n 2, 1) := by decide +kernel
theorem dL_law_419 : decode code 419 = .ok (.aload_n 0, 1) := by decide +kernel
theorem dL_law_420 : decode code 420 = .ok (.iload 4, 2) := by decide +kernel
theorem dL_law_422 : decode code 422 = .ok (.iconst 1, 1) := by decide +kernel
theorem dL_law_423 : decode code 423 = .ok (.iadd, 1) := by decide +kernel
theorem dL_law_424 : decode code 424 = .ok (.iaload, 1) := by decide +kernel
theorem dL_law_425 : decode code 425 = .ok (.aload_n 0, 1) := by decide +kernel
theorem dL_law_426 : decode code 426 = .ok (.iload 4, 2) := by decide +kernel
theorem dL_law_428 : decode code 428 = .ok (.iconst 2, 1) := by decide +kernel
theorem dL_law_429 : decode code 429 = .ok (.iadd, 1) := by decide +kernel
theorem dL_law_430 : decode code 430 = .ok (.iaload, 1) := by decide +kernel
theorem dL_law_431 : decode code 431 = .ok (.invokevirtual 76, 3) := by decide +kernel
theorem dL_law_434 : decode code 434 = .ok (.istore 6, 2) := by decide +kernel
theorem dL_law_436 : decode code 436 = .ok (.aload_n 2, 1) := by decide +kernel
theorem dL_law_437 : decode code 437 = .ok (.invokevirtual 54, 3) := by decide +kernel
theorem dL_law_440 : decode code 440 = .ok (.iload 5, 2) := by decide +kernel
theorem dL_law_442 : decode code 442 = .ok (.if_icmp .eq 5, 3) := by decide +kernel
theorem dL_law_445 : decode code 445 = .ok (.iconst 0, 1) := by decide +kernel
theorem dL_law_446 : decode code 446 = .ok (.ireturn, 1) := by decide +kernel
theorem dL_law_447 : decode code 447 = .ok (.iload 5, 2) := by decide +kernel
theorem dL_law_449 : decode code 449 = .ok (.ifCond .ne 15, 3) := by decide +kernel
theorem dL_law_452 : decode code 452 = .ok (.aload_n 3, 1) := by decide +kernel
theorem dL_law_453 : decode code 453 = .ok (.iconst 0, 1) := by decide +kernel
theorem dL_law_454 : decode code 454 = .ok (.laload, 1) := by decide +kernel
theorem dL_law_455 : decode code 455 = .ok (.iload 6, 2) := by decide +kernel
theorem dL_law_457 : decode code 457 = .ok (.i2l, 1) := by decide +kernel
theorem dL_law_458 : decode code 458 = .ok (.lcmp, 1) := by decide +kernel
theorem dL_law_459 : decode code 459 = .ok (.ifCond .eq 5, 3) := by decide +kernel
theorem dL_law_462 : decode code 462 = .ok (.iconst 0, 1) := by decide +kernel
theorem dL_law_463 : decode code 463 = .ok (.ireturn, 1) := by decide +kernel
theorem dL_law_464 : decode code 464 = .ok (.goto 195, 3) := by decide +kernel
theorem dL_law_467 : decode code 467 = .ok (.aload_n 1, 1) := by decide +kernel
theorem dL_law_468 : decode code 468 = .ok (.aload_n 0, 1) := by decide +kernel
theorem dL_law_469 : decode code 469 = .ok (.iload 4, 2) := by decide +kernel
theorem dL_law_471 : decode code 471 = .ok (.iconst 1, 1) := by decide +kernel
theorem dL_law_472 : decode code 472 = .ok (.iadd, 1) := by decide +kernel
theorem dL_law_473 : decode code 473 = .ok (.iaload, 1) := by decide +kernel
theorem dL_law_474 : decode code 474 = .ok (.aload_n 0, 1) := by decide +kernel
theorem dL_law_475 : decode code 475 = .ok (.iload 4, 2) := by decide +kernel
theorem dL_law_477 : decode code 477 = .ok (.iconst 2, 1) := by decide +kernel
theorem dL_law_478 : decode code 478 = .ok (.iadd, 1) := by decide +kernel
theorem dL_law_479 : decode code 479 = .ok (.iaload, 1) := by decide +kernel
theorem dL_law_480 : decode code 480 = .ok (.aload_n 3, 1) := by decide +kernel
theorem dL_law_481 : decode code 481 = .ok (.invokestatic 77, 3) := by decide +kernel
theorem dL_law_484 : decode code 484 = .ok (.istore 5, 2) := by decide +kernel
theorem dL_law_486 : decode code 486 = .ok (.aload_n 2, 1) := by decide +kernel
theorem dL_law_487 : decode code 487 = .ok (.aload_n 0, 1) := by decide +kernel
theorem dL_law_488 : decode code 488 = .ok (.iload 4, 2) := by decide +kernel
theorem dL_law_490 : decode code 490 = .ok (.iconst 1, 1) := by decide +kernel
theorem dL_law_491 : decode code 491 = .ok (.iadd, 1) := by decide +kernel
theorem dL_law_492 : decode code 492 = .ok (.iaload, 1) := by decide +kernel
theorem dL_law_493 : decode code 493 = .ok (.aload_n 0, 1) := by decide +kernel
theorem dL_law_494 : decode code 494 = .ok (.iload 4, 2) := by decide +kernel
theorem dL_law_496 : decode code 496 = .ok (.iconst 2, 1) := by decide +kernel
theorem dL_law_497 : decode code 497 = .ok (.iadd, 1) := by decide +kernel
theorem dL_law_498 : decode code 498 = .ok (.iaload, 1) := by decide +kernel
theorem dL_law_499 : decode code 499 = .ok (.invokevirtual 79, 3) := by decide +kernel
theorem dL_law_502 : decode code 502 = .ok (.istore 6, 2) := by decide +kernel
theorem dL_law_504 : decode code 504 = .ok (.aload_n 2, 1) := by decide +kernel
theorem dL_law_505 : decode code 505 = .ok (.invokevirtual 54, 3) := by decide +kernel
theorem dL_law_508 : decode code 508 = .ok (.iload 5, 2) := by decide +kernel
theorem dL_law_510 : decode code 510 = .ok (.if_icmp .eq 5, 3) := by decide +kernel
theorem dL_law_513 : decode code 513 = .ok (.iconst 0, 1) := by decide +kernel
theorem dL_law_514 : decode code 514 = .ok (.ireturn, 1) := by decide +kernel
theorem dL_law_515 : decode code 515 = .ok (.iload 5, 2) := by decide +kernel
theorem dL_law_517 : decode code 517 = .ok (.ifCond .ne 15, 3) := by decide +kernel
theorem dL_law_520 : decode code 520 = .ok (.aload_n 3, 1) := by decide +kernel
theorem dL_law_521 : decode code 521 = .ok (.iconst 0, 1) := by decide +kernel
theorem dL_law_522 : decode code 522 = .ok (.laload, 1) := by decide +kernel
theorem dL_law_523 : decode code 523 = .ok (.iload 6, 2) := by decide +kernel
theorem dL_law_525 : decode code 525 = .ok (.i2l, 1) := by decide +kernel
theorem dL_law_526 : decode code 526 = .ok (.lcmp, 1) := by decide +kernel
theorem dL_law_527 : decode code 527 = .ok (.ifCond .eq 5, 3) := by decide +kernel
theorem dL_law_530 : decode code 530 = .ok (.iconst 0, 1) := by decide +kernel
theorem dL_law_531 : decode code 531 = .ok (.ireturn, 1) := by decide +kernel
theorem dL_law_532 : decode code 532 = .ok (.goto 127, 3) := by decide +kernel
theorem dL_law_535 : decode code 535 = .ok (.aload_n 1, 1) := by decide +kernel
theorem dL_law_536 : decode code 536 = .ok (.aload_n 0, 1) := by decide +kernel
theorem dL_law_537 : decode code 537 = .ok (.iload 4, 2) := by decide +kernel
theorem dL_law_539 : decode code 539 = .ok (.iconst 1, 1) := by decide +kernel
theorem dL_law_540 : decode code 540 = .ok (.iadd, 1) := by decide +kernel
theorem dL_law_541 : decode code 541 = .ok (.iaload, 1) := by decide +kernel
theorem dL_law_542 : decode code 542 = .ok (.aload_n 0, 1) := by decide +kernel
theorem dL_law_543 : decode code 543 = .ok (.iload 4, 2) := by decide +kernel
theorem dL_law_545 : decode code 545 = .ok (.iconst 2, 1) := by decide +kernel
theorem dL_law_546 : decode code 546 = .ok (.iadd, 1) := by decide +kernel
theorem dL_law_547 : decode code 547 = .ok (.iaload, 1) := by decide +kernel
theorem dL_law_548 : decode code 548 = .ok (.aload_n 3, 1) := by decide +kernel
theorem dL_law_549 : decode code 549 = .ok (.invokestatic 80, 3) := by decide +kernel
theorem dL_law_552 : decode code 552 = .ok (.istore 5, 2) := by decide +kernel
theorem dL_law_554 : decode code 554 = .ok (.aload_n 2, 1) := by decide +kernel
theorem dL_law_555 : decode code 555 = .ok (.aload_n 0, 1) := by decide +kernel
theorem dL_law_556 : decode code 556 = .ok (.iload 4, 2) := by decide +kernel
theorem dL_law_558 : decode code 558 = .ok (.iconst 1, 1) := by decide +kernel
theorem dL_law_559 : decode code 559 = .ok (.iadd, 1) := by decide +kernel
theorem dL_law_560 : decode code 560 = .ok (.iaload, 1) := by decide +kernel
theorem dL_law_561 : decode code 561 = .ok (.aload_n 0, 1) := by decide +kernel
theorem dL_law_562 : decode code 562 = .ok (.iload 4, 2) := by decide +kernel
theorem dL_law_564 : decode code 564 = .ok (.iconst 2, 1) := by decide +kernel
theorem dL_law_565 : decode code 565 = .ok (.iadd, 1) := by decide +kernel
theorem dL_law_566 : decode code 566 = .ok (.iaload, 1) := by decide +kernel
theorem dL_law_567 : decode code 567 = .ok (.invokevirtual 82, 3) := by decide +kernel
theorem dL_law_570 : decode code 570 = .ok (.istore 6, 2) := by decide +kernel
theorem dL_law_572 : decode code 572 = .ok (.aload_n 2, 1) := by decide +kernel
theorem dL_law_573 : decode code 573 = .ok (.invokevirtual 54, 3) := by decide +kernel
theorem dL_law_576 : decode code 576 = .ok (.iload 5, 2) := by decide +kernel
theorem dL_law_578 : decode code 578 = .ok (.if_icmp .eq 5, 3) := by decide +kernel
theorem dL_law_581 : decode code 581 = .ok (.iconst 0, 1) := by decide +kernel
theorem dL_law_582 : decode code 582 = .ok (.ireturn, 1) := by decide +kernel
theorem dL_law_583 : decode code 583 = .ok (.iload 5, 2) := by decide +kernel
theorem dL_law_585 : decode code 585 = .ok (.ifCond .ne 15, 3) := by decide +kernel
theorem dL_law_588 : decode code 588 = .ok (.aload_n 3, 1) := by decide +kernel
theorem dL_law_589 : decode code 589 = .ok (.iconst 0, 1) := by decide +kernel
theorem dL_law_590 : decode code 590 = .ok (.laload, 1) := by decide +kernel
theorem dL_law_591 : decode code 591 = .ok (.iload 6, 2) := by decide +kernel
theorem dL_law_593 : decode code 593 = .ok (.i2l, 1) := by decide +kernel
theorem dL_law_594 : decode code 594 = .ok (.lcmp, 1) := by decide +kernel
theorem dL_law_595 : decode code 595 = .ok (.ifCond .eq 5, 3) := by decide +kernel
theorem dL_law_598 : decode code 598 = .ok (.iconst 0, 1) := by decide +kernel
theorem dL_law_599 : decode code 599 = .ok (.ireturn, 1) := by decide +kernel
theorem dL_law_600 : decode code 600 = .ok (.goto 59, 3) := by decide +kernel
theorem dL_law_603 : decode code 603 = .ok (.aload_n 1, 1) := by decide +kernel
theorem dL_law_604 : decode code 604 = .ok (.aload_n 0, 1) := by decide +kernel
theorem dL_law_605 : decode code 605 = .ok (.iload 4, 2) := by decide +kernel
theorem dL_law_607 : decode code 607 = .ok (.iconst 1, 1) := by decide +kernel
theorem dL_law_608 : decode code 608 = .ok (.iadd, 1) := by decide +kernel
theorem dL_law_609 : decode code 609 = .ok (.iaload, 1) := by decide +kernel
theorem dL_law_610 : decode code 610 = .ok (.aload_n 3, 1) := by decide +kernel
theorem dL_law_611 : decode code 611 = .ok (.invokestatic 83, 3) := by decide +kernel
theorem dL_law_614 : decode code 614 = .ok (.istore 5, 2) := by decide +kernel
theorem dL_law_616 : decode code 616 = .ok (.aload_n 2, 1) := by decide +kernel
theorem dL_law_617 : decode code 617 = .ok (.aload_n 0, 1) := by decide +kernel
theorem dL_law_618 : decode code 618 = .ok (.iload 4, 2) := by decide +kernel
theorem dL_law_620 : decode code 620 = .ok (.iconst 1, 1) := by decide +kernel
theorem dL_law_621 : decode code 621 = .ok (.iadd, 1) := by decide +kernel
theorem dL_law_622 : decode code 622 = .ok (.iaload, 1) := by decide +kernel
theorem dL_law_623 : decode code 623 = .ok (.invokevirtual 85, 3) := by decide +kernel
theorem dL_law_626 : decode code 626 = .ok (.istore 6, 2) := by decide +kernel
theorem dL_law_628 : decode code 628 = .ok (.aload_n 2, 1) := by decide +kernel
theorem dL_law_629 : decode code 629 = .ok (.invokevirtual 54, 3) := by decide +kernel
theorem dL_law_632 : decode code 632 = .ok (.iload 5, 2) := by decide +kernel
theorem dL_law_634 : decode code 634 = .ok (.if_icmp .eq 5, 3) := by decide +kernel
theorem dL_law_637 : decode code 637 = .ok (.iconst 0, 1) := by decide +kernel
theorem dL_law_638 : decode code 638 = .ok (.ireturn, 1) := by decide +kernel
theorem dL_law_639 : decode code 639 = .ok (.iload 5, 2) := by decide +kernel
theorem dL_law_641 : decode code 641 = .ok (.ifCond .ne 15, 3) := by decide +kernel
theorem dL_law_644 : decode code 644 = .ok (.aload_n 3, 1) := by decide +kernel
theorem dL_law_645 : decode code 645 = .ok (.iconst 0, 1) := by decide +kernel
theorem dL_law_646 : decode code 646 = .ok (.laload, 1) := by decide +kernel
theorem dL_law_647 : decode code 647 = .ok (.iload 6, 2) := by decide +kernel
theorem dL_law_649 : decode code 649 = .ok (.i2l, 1) := by decide +kernel
theorem dL_law_650 : decode code 650 = .ok (.lcmp, 1) := by decide +kernel
theorem dL_law_651 : decode code 651 = .ok (.ifCond .eq 5, 3) := by decide +kernel
theorem dL_law_654 : decode code 654 = .ok (.iconst 0, 1) := by decide +kernel
theorem dL_law_655 : decode code 655 = .ok (.ireturn, 1) := by decide +kernel
theorem dL_law_656 : decode code 656 = .ok (.goto 3, 3) := by decide +kernel
theorem dL_law_659 : decode code 659 = .ok (.iinc 4 6, 3) := by decide +kernel
theorem dL_law_662 : decode code 662 = .ok (.goto (-639), 3) := by decide +kernel
theorem dL_law_665 : decode code 665 = .ok (.iconst 1, 1) := by decide +kernel
theorem dL_law_666 : decode code 666 = .ok (.ireturn, 1) := by decide +kernel
end
section
/-! loops, places in arrays, ends of counters -/
/-- a loop by a measure: the invariant says all that the walk knows at the loop's head -/
theorem loopW {p : Program} {l : Launch} {e : Env} {R : Room} {s : State} {m : MethodId} {args : Array Value} {below : List Frame} {meth : Method} {c : Code} {cells slots : Nat} {Q : State → Prop} {pc : Nat}
    (I : Nat → Heap → List Loc → Array Slot → Prop)
    (hs : ∀ (d : Nat) (H : Heap) (locs : List Loc) (ls : Array Slot), I d H locs ls → (∀ (d' : Nat) (H' : Heap) (locs' : List Loc) (ls' : Array Slot), d' < d → I d' H' locs' ls' → W p l e R s m args below meth c H' locs' cells slots Q (F0 m pc ls' [])) → W p l e R s m args below meth c H locs cells slots Q (F0 m pc ls []))
    (d : Nat) {H : Heap} {locs : List Loc} {ls : Array Slot} (h : I d H locs ls) : W p l e R s m args below meth c H locs cells slots Q (F0 m pc ls []) := by
  have key : ∀ (n d : Nat), d < n → ∀ (H : Heap) (locs : List Loc) (ls : Array Slot), I d H locs ls → W p l e R s m args below meth c H locs cells slots Q (F0 m pc ls []) := by
    intro n
    induction n with
    | zero => intro d h; exact absurd h (Nat.not_lt_zero d)
    | succ n ih =>
      intro d hd H locs ls hI
      exact hs d H locs ls hI (fun d' H' locs' ls' h' hI' => ih d' (by omega) H' locs' ls' hI')
  exact key (d + 1) d (Nat.lt_succ_self d) H locs ls h
theorem lm_end {x : Int32} {j N : Nat} (hN : x = nI N) (h31 : N < 2 ^ 31) (hj : j ≤ N) (c : x ≤ nI j) : j = N := by
  rw [hN, nI_leI h31 (by omega)] at c
  omega
theorem lm_go {x : Int32} {j N : Nat} (hN : x = nI N) (h31 : N < 2 ^ 31) (hj : j ≤ N) (c : ¬ x ≤ nI j) : j < N := by
  rw [hN, nI_leI h31 (by omega)] at c
  omega
theorem lm_6 : (6 : Int32) = nI 6 := by decide
theorem lm_ix {a K : Int32} {j k an : Nat} (ha : a = nI j) (hK : K = nI k) (hk : k < 6) (h : j * 6 + 5 < an) (han : an < 2 ^ 31) : vp_in ((a * 6) + K) an := by
  rw [ha, hK, lm_6, pk_mul, nI_add]
  exact vp_in_nI (by omega) han
theorem lm_ixv {a K : Int32} {j k : Nat} (ha : a = nI j) (hK : K = nI k) (h : j * 6 + k < 2 ^ 31) : ((a * 6) + K).toNatClampNeg = j * 6 + k := by
  rw [ha, hK, lm_6, pk_mul, nI_add]
  exact nI_clamp h
end
section
def tb_across (fs a1 a2 : Int32) : Int32 := (((a2 - 1) >>> (fs &&& 31)) - (a1 >>> (fs &&& 31))) + 1
set_option maxHeartbeats 4000000 in
set_option maxRecDepth 100000 in
theorem mtX0_tilesAcross (l : Launch) (dC : Nat → ClassId) (dI : Nat → Nat → Nat) (h0 q1 : Nat) (cA : ClassId) (fw fh fs fc fl fe fi ft fo fa : Int32) (an : Nat) (af : Nat → Int32) (sz : Nat) (a1 a2 : Int32) : Met l yX0_tilesAcross wsX0_tilesAcross ({ frames := 0, cells := 0, slots := 0, locals := 0 }) (va_Pc [.ref h0, .int a1, .int a2] (ro_P (dC, dI) vwCl [(h0, .inr (0, [.int fw, .int fh, .int fs, .int fc, .int fl, .int fe, .ref q1, .int fi, .int ft, .int fo, .int fa])), (q1, .inl (cA, an, .inl af))] [(cA, .int)] sz)) (va_Qi (fun (r : Int32) (_ : Unit) => r = tb_across fs a1 a2) (fun _ _ => True) (ro_A sz)) 0 0 (ro_A sz) := by
  refine Met.ofW (cc := cX0_tilesAcross) (maxL := 3) (ret := (some .int)) (by decide) rfl ?_
  intro p e s m args below meth c s₁ B hml hv
  obtain ⟨rfl, hsz, hP, hK⟩ := hv
  have hx := B.exec
  have hb := B.bytes
  have hr := B.returns
  have hts : ∀ w ∈ gb, w.before _ s = true := fun w h => atoms_spec (ws := wsX0_tilesAcross) B.pre w (List.mem_cons_of_mem _ h)
  have hown : s.vm.findClass "TileBins" = some m.cls := findClass_of_methodNamed B.named
  have hlocks := B.notSynchronized
  subst hsz
  have hA : ∀ q : Nat, s.heap.size ≤ q → ro_A s.heap.size q := fun q h => h
  have hS : va_S (ro_A s.heap.size) s.heap s.heap [] := va_S.rf
  have hl := lv_entry ([.ref h0, .int a1, .int a2]) (n := 3) (Nat.le_of_ble_eq_true rfl)
  rw [lg_entry_eq]
  generalize (lg_sl ([.ref h0, .int a1, .int a2]) ++ List.replicate (3 - (lg_sl ([.ref h0, .int a1, .int a2])).length) Slot.unset).toArray = ls at hl ⊢
  have hl : lv_has ls 3 [(0, .ref h0), (1, .int a1), (2, .int a2)] := hl
  refine lv_iload_n hx hb dX0_tilesAcross_0 rfl (lv_at hl 2 rfl) ?_
  refine lv_iconst (v := 1) hx hb dX0_tilesAcross_1 (by first | rfl | decide) ?_
  refine lv_isub hx hb dX0_tilesAcross_2 ?_
  refine lv_aload_n hx hb dX0_tilesAcross_3 rfl (lv_at hl 0 rfl) ?_
  refine va_get (D := (dC, dI)) (ci := 0) (v := .int fs) (C := "TileBins") (T := TX0) (N := 11) hx hb hts inX0 hown hK hP 0 rfl rfl 2 (by decide) (hts _ kw_55) (fun _ h9 => h9) rfl dX0_tilesAcross_4 ?_
  refine lv_ishr hx hb dX0_tilesAcross_7 ?_
  refine lv_iload_n hx hb dX0_tilesAcross_8 rfl (lv_at hl 1 rfl) ?_
  refine lv_aload_n hx hb dX0_tilesAcross_9 rfl (lv_at hl 0 rfl) ?_
  refine va_get (D := (dC, dI)) (ci := 0) (v := .int fs) (C := "TileBins") (T := TX0) (N := 11) hx hb hts inX0 hown hK hP 0 rfl rfl 2 (by decide) (hts _ kw_55) (fun _ h9 => h9) rfl dX0_tilesAcross_10 ?_
  refine lv_ishr hx hb dX0_tilesAcross_13 ?_
  refine lv_isub hx hb dX0_tilesAcross_14 ?_
  refine lv_iconst (v := 1) hx hb dX0_tilesAcross_15 (by first | rfl | decide) ?_
  refine lv_iadd hx hb dX0_tilesAcross_16 ?_
  exact W.iret (v := (((a2 - 1) >>> (fs &&& 31)) - (a1 >>> (fs &&& 31))) + 1) hx hb hr (fun t ht hW => ⟨⟨_, (), rfl, rfl, trivial⟩, hS.F ht⟩) hS.2.2 dX0_tilesAcross_17
def tb_tiles (fc fl : Int32) : Int32 := fc * fl
set_option maxHeartbeats 4000000 in
set_option maxRecDepth 100000 in
theorem mtX0_tilesInAll (l : Launch) (dC : Nat → ClassId) (dI : Nat → Nat → Nat) (h0 q1 : Nat) (cA : ClassId) (fw fh fs fc fl fe fi ft fo fa : Int32) (an : Nat) (af : Nat → Int32) (sz : Nat) : Met l yX0_tilesInAll wsX0_tilesInAll ({ frames := 0, cells := 0, slots := 0, locals := 0 }) (va_Pc [.ref h0] (ro_P (dC, dI) vwCl [(h0, .inr (0, [.int fw, .int fh, .int fs, .int fc, .int fl, .int fe, .ref q1, .int fi, .int ft, .int fo, .int fa])), (q1, .inl (cA, an, .inl af))] [(cA, .int)] sz)) (va_Qi (fun (r : Int32) (_ : Unit) => r = tb_tiles fc fl) (fun _ _ => True) (ro_A sz)) 0 0 (ro_A sz) := by
  refine Met.ofW (cc := cX0_tilesInAll) (maxL := 1) (ret := (some .int)) (by decide) rfl ?_
  intro p e s m args below meth c s₁ B hml hv
  obtain ⟨rfl, hsz, hP, hK⟩ := hv
  have hx := B.exec
  have hb := B.bytes
  have hr := B.returns
  have hts : ∀ w ∈ gb, w.before _ s = true := fun w h => atoms_spec (ws := wsX0_tilesInAll) B.pre w (List.mem_cons_of_mem _ h)
  have hown : s.vm.findClass "TileBins" = some m.cls := findClass_of_methodNamed B.named
  have hlocks := B.notSynchronized
  subst hsz
  have hA : ∀ q : Nat, s.heap.size ≤ q → ro_A s.heap.size q := fun q h => h
  have hS : va_S (ro_A s.heap.size) s.heap s.heap [] := va_S.rf
  have hl := lv_entry ([.ref h0]) (n := 1) (Nat.le_of_ble_eq_true rfl)
  rw [lg_entry_eq]
  generalize (lg_sl ([.ref h0]) ++ List.replicate (1 - (lg_sl ([.ref h0])).length) Slot.unset).toArray = ls at hl ⊢
  have hl : lv_has ls 1 [(0, .ref h0)] := hl
  refine lv_aload_n hx hb dX0_tilesInAll_0 rfl (lv_at hl 0 rfl) ?_
  refine va_get (D := (dC, dI)) (ci := 0) (v := .int fc) (C := "TileBins") (T := TX0) (N := 11) hx hb hts inX0 hown hK hP 0 rfl rfl 3 (by decide) (hts _ kw_56) (fun _ h9 => h9) rfl dX0_tilesInAll_1 ?_
  refine lv_aload_n hx hb dX0_tilesInAll_4 rfl (lv_at hl 0 rfl) ?_
  refine va_get (D := (dC, dI)) (ci := 0) (v := .int fl) (C := "TileBins") (T := TX0) (N := 11) hx hb hts inX0 hown hK hP 0 rfl rfl 4 (by decide) (hts _ kw_57) (fun _ h9 => h9) rfl dX0_tilesInAll_5 ?_
  refine lv_imul hx hb dX0_tilesInAll_8 ?_
  exact W.iret (v := fc * fl) hx hb hr (fun t ht hW => ⟨⟨_, (), rfl, rfl, trivial⟩, hS.F ht⟩) hS.2.2 dX0_tilesInAll_9
def tb_isTile (fc fl a1 : Int32) : Int32 := (if a1 < 0 then 0 else (if (tb_tiles fc fl) ≤ a1 then 0 else 1))
set_option maxHeartbeats 4000000 in
set_option maxRecDepth 100000 in
theorem mtX0_isTile (l : Launch) (dC : Nat → ClassId) (dI : Nat → Nat → Nat) (h0 q1 : Nat) (cA : ClassId) (fw fh fs fc fl fe fi ft fo fa : Int32) (an : Nat) (af : Nat → Int32) (sz : Nat) (a1 : Int32) : Met l yX0_isTile wsX0_isTile ({ frames := 1, cells := 0, slots := 0, locals := 20 }) (va_Pc [.ref h0, .int a1] (ro_P (dC, dI) vwCl [(h0, .inr (0, [.int fw, .int fh, .int fs, .int fc, .int fl, .int fe, .ref q1, .int fi, .int ft, .int fo, .int fa])), (q1, .inl (cA, an, .inl af))] [(cA, .int)] sz)) (va_Qi (fun (r : Int32) (_ : Unit) => r = tb_isTile fc fl a1) (fun _ _ => True) (ro_A sz)) 0 0 (ro_A sz) := by
  refine Met.ofW (cc := cX0_isTile) (maxL := 2) (ret := (some .boolean)) (by decide) rfl ?_
  intro p e s m args below meth c s₁ B hml hv
  obtain ⟨rfl, hsz, hP, hK⟩ := hv
  have hx := B.exec
  have hb := B.bytes
  have hr := B.returns
  have hts : ∀ w ∈ gb, w.before _ s = true := fun w h => atoms_spec (ws := wsX0_isTile) B.pre w (List.mem_cons_of_mem _ h)
  have hown : s.vm.findClass "TileBins" = some m.cls := findClass_of_methodNamed B.named
  have hlocks := B.notSynchronized
  subst hsz
  have hA : ∀ q : Nat, s.heap.size ≤ q → ro_A s.heap.size q := fun q h => h
  have hS : va_S (ro_A s.heap.size) s.heap s.heap [] := va_S.rf
  have hl := lv_entry ([.ref h0, .int a1]) (n := 2) (Nat.le_of_ble_eq_true rfl)
  rw [lg_entry_eq]
  generalize (lg_sl ([.ref h0, .int a1]) ++ List.replicate (2 - (lg_sl ([.ref h0, .int a1])).length) Slot.unset).toArray = ls at hl ⊢
  have hl : lv_has ls 2 [(0, .ref h0), (1, .int a1)] := hl
  refine lv_iload_n hx hb dX0_isTile_0 rfl (lv_at hl 1 rfl) ?_
  refine lv_if_lt (tgt := 16) hx hb dX0_isTile_1 (by decide) (fun c_1 => ?_) (fun c_1 => ?_)
  · refine lv_iconst (v := 0) hx hb dX0_isTile_16 (by first | rfl | decide) ?_
    exact W.zret (v := 0) hx hb hr (by rfl) (fun t ht hW => ⟨⟨_, (), rfl, (show 0 = tb_isTile fc fl a1 by unfold tb_isTile; rw [if_pos c_1]), trivial⟩, hS.F ht⟩) hS.2.2 dX0_isTile_17
  · refine lv_iload_n hx hb dX0_isTile_4 rfl (lv_at hl 1 rfl) ?_
    refine lv_aload_n hx hb dX0_isTile_5 rfl (lv_at hl 0 rfl) ?_
    refine ro_calli (va_runV (As := []) (rest := [.int a1]) ⟨hx, hb, hml, hown, hts⟩ (mtX0_tilesInAll l dC dI h0 q1 cA fw fh fs fc fl fe fi ft fo fa an af s.heap.size ) (cwV 0 hts (gb_v kw_176 kw_178 kw_4 kw_22 kw_179) rfl rfl rfl (by decide +kernel) ⟨Nat.le_of_ble_eq_true rfl, Nat.le_of_ble_eq_true rfl⟩) ⟨ro_P.blind, va_recv hK hP (ci := 0) (q0 := 0) rfl rfl, ro_P.at hP hK⟩ rfl rfl hl.1 rfl (lv_room (Nat.le_of_ble_eq_true rfl)) dX0_isTile_6 ⟨Nat.le_of_ble_eq_true rfl, Nat.le_of_ble_eq_true rfl⟩) hP hS hA (fun H locs hP hS hz hk => ?_)
    refine lv_icmp_ge (tgt := 16) hx hb dX0_isTile_9 (by decide) (fun c_2 => ?_) (fun c_2 => ?_)
    · refine lv_iconst (v := 0) hx hb dX0_isTile_16 (by first | rfl | decide) ?_
      exact W.zret (v := 0) hx hb hr (by rfl) (fun t ht hW => ⟨⟨_, (), rfl, (show 0 = tb_isTile fc fl a1 by unfold tb_isTile; rw [if_neg c_1, if_pos c_2]), trivial⟩, hS.F ht⟩) hS.2.2 dX0_isTile_17
    · refine lv_iconst (v := 1) hx hb dX0_isTile_12 (by first | rfl | decide) ?_
      refine lv_goto (tgt := 17) hx hb dX0_isTile_13 (by decide) ?_
      exact W.zret (v := 1) hx hb hr (by rfl) (fun t ht hW => ⟨⟨_, (), rfl, (show 1 = tb_isTile fc fl a1 by unfold tb_isTile; rw [if_neg c_1, if_neg c_2]), trivial⟩, hS.F ht⟩) hS.2.2 dX0_isTile_17
def tb_side (fs : Int32) : Int32 := 1 <<< (fs &&& 31)
set_option maxHeartbeats 4000000 in
set_option maxRecDepth 100000 in
theorem mtX0_sideLength (l : Launch) (dC : Nat → ClassId) (dI : Nat → Nat → Nat) (h0 q1 : Nat) (cA : ClassId) (fw fh fs fc fl fe fi ft fo fa : Int32) (an : Nat) (af : Nat → Int32) (sz : Nat) : Met l yX0_sideLength wsX0_sideLength ({ frames := 0, cells := 0, slots := 0, locals := 0 }) (va_Pc [.ref h0] (ro_P (dC, dI) vwCl [(h0, .inr (0, [.int fw, .int fh, .int fs, .int fc, .int fl, .int fe, .ref q1, .int fi, .int ft, .int fo, .int fa])), (q1, .inl (cA, an, .inl af))] [(cA, .int)] sz)) (va_Qi (fun (r : Int32) (_ : Unit) => r = tb_side fs) (fun _ _ => True) (ro_A sz)) 0 0 (ro_A sz) := by
  refine Met.ofW (cc := cX0_sideLength) (maxL := 1) (ret := (some .int)) (by decide) rfl ?_
  intro p e s m args below meth c s₁ B hml hv
  obtain ⟨rfl, hsz, hP, hK⟩ := hv
  have hx := B.exec
  have hb := B.bytes
  have hr := B.returns
  have hts : ∀ w ∈ gb, w.before _ s = true := fun w h => atoms_spec (ws := wsX0_sideLength) B.pre w (List.mem_cons_of_mem _ h)
  have hown : s.vm.findClass "TileBins" = some m.cls := findClass_of_methodNamed B.named
  have hlocks := B.notSynchronized
  subst hsz
  have hA : ∀ q : Nat, s.heap.size ≤ q → ro_A s.heap.size q := fun q h => h
  have hS : va_S (ro_A s.heap.size) s.heap s.heap [] := va_S.rf
  have hl := lv_entry ([.ref h0]) (n := 1) (Nat.le_of_ble_eq_true rfl)
  rw [lg_entry_eq]
  generalize (lg_sl ([.ref h0]) ++ List.replicate (1 - (lg_sl ([.ref h0])).length) Slot.unset).toArray = ls at hl ⊢
  have hl : lv_has ls 1 [(0, .ref h0)] := hl
  refine lv_iconst (v := 1) hx hb dX0_sideLength_0 (by first | rfl | decide) ?_
  refine lv_aload_n hx hb dX0_sideLength_1 rfl (lv_at hl 0 rfl) ?_
  refine va_get (D := (dC, dI)) (ci := 0) (v := .int fs) (C := "TileBins") (T := TX0) (N := 11) hx hb hts inX0 hown hK hP 0 rfl rfl 2 (by decide) (hts _ kw_55) (fun _ h9 => h9) rfl dX0_sideLength_2 ?_
  refine lv_ishl hx hb dX0_sideLength_5 ?_
  exact W.iret (v := 1 <<< (fs &&& 31)) hx hb hr (fun t ht hW => ⟨⟨_, (), rfl, rfl, trivial⟩, hS.F ht⟩) hS.2.2 dX0_sideLength_6
def tb_left (fs fc a1 : Int32) : Int32 := (if fc ≤ 0 then 0 else (a1 - a1 / fc * fc) <<< (fs &&& 31))
set_option maxHeartbeats 4000000 in
set_option maxRecDepth 100000 in
theorem mtX0_leftOf (l : Launch) (dC : Nat → ClassId) (dI : Nat → Nat → Nat) (h0 q1 : Nat) (cA : ClassId) (fw fh fs fc fl fe fi ft fo fa : Int32) (an : Nat) (af : Nat → Int32) (sz : Nat) (a1 : Int32) : Met l yX0_leftOf wsX0_leftOf ({ frames := 0, cells := 0, slots := 0, locals := 0 }) (va_Pc [.ref h0, .int a1] (ro_P (dC, dI) vwCl [(h0, .inr (0, [.int fw, .int fh, .int fs, .int fc, .int fl, .int fe, .ref q1, .int fi, .int ft, .int fo, .int fa])), (q1, .inl (cA, an, .inl af))] [(cA, .int)] sz)) (va_Qi (fun (r : Int32) (_ : Unit) => r = tb_left fs fc a1) (fun _ _ => True) (ro_A sz)) 0 0 (ro_A sz) := by
  refine Met.ofW (cc := cX0_leftOf) (maxL := 2) (ret := (some .int)) (by decide) rfl ?_
  intro p e s m args below meth c s₁ B hml hv
  obtain ⟨rfl, hsz, hP, hK⟩ := hv
  have hx := B.exec
  have hb := B.bytes
  have hr := B.returns
  have hts : ∀ w ∈ gb, w.before _ s = true := fun w h => atoms_spec (ws := wsX0_leftOf) B.pre w (List.mem_cons_of_mem _ h)
  have hown : s.vm.findClass "TileBins" = some m.cls := findClass_of_methodNamed B.named
  have hlocks := B.notSynchronized
  subst hsz
  have hA : ∀ q : Nat, s.heap.size ≤ q → ro_A s.heap.size q := fun q h => h
  have hS : va_S (ro_A s.heap.size) s.heap s.heap [] := va_S.rf
  have hl := lv_entry ([.ref h0, .int a1]) (n := 2) (Nat.le_of_ble_eq_true rfl)
  rw [lg_entry_eq]
  generalize (lg_sl ([.ref h0, .int a1]) ++ List.replicate (2 - (lg_sl ([.ref h0, .int a1])).length) Slot.unset).toArray = ls at hl ⊢
  have hl : lv_has ls 2 [(0, .ref h0), (1, .int a1)] := hl
  refine lv_aload_n hx hb dX0_leftOf_0 rfl (lv_at hl 0 rfl) ?_
  refine va_get (D := (dC, dI)) (ci := 0) (v := .int fc) (C := "TileBins") (T := TX0) (N := 11) hx hb hts inX0 hown hK hP 0 rfl rfl 3 (by decide) (hts _ kw_56) (fun _ h9 => h9) rfl dX0_leftOf_1 ?_
  refine lv_if_le (tgt := 21) hx hb dX0_leftOf_4 (by decide) (fun c_1 => ?_) (fun c_1 => ?_)
  · refine lv_iconst (v := 0) hx hb dX0_leftOf_21 (by first | rfl | decide) ?_
    exact W.iret (v := 0) hx hb hr (fun t ht hW => ⟨⟨_, (), rfl, (show 0 = tb_left fs fc a1 by unfold tb_left; rw [if_pos c_1]), trivial⟩, hS.F ht⟩) hS.2.2 dX0_leftOf_22
  · refine lv_iload_n hx hb dX0_leftOf_7 rfl (lv_at hl 1 rfl) ?_
    refine lv_aload_n hx hb dX0_leftOf_8 rfl (lv_at hl 0 rfl) ?_
    refine va_get (D := (dC, dI)) (ci := 0) (v := .int fc) (C := "TileBins") (T := TX0) (N := 11) hx hb hts inX0 hown hK hP 0 rfl rfl 3 (by decide) (hts _ kw_56) (fun _ h9 => h9) rfl dX0_leftOf_9 ?_
    refine lv_irem hx hb dX0_leftOf_12 (fun h => c_1 (by rw [h]; decide)) ?_
    refine lv_aload_n hx hb dX0_leftOf_13 rfl (lv_at hl 0 rfl) ?_
    refine va_get (D := (dC, dI)) (ci := 0) (v := .int fs) (C := "TileBins") (T := TX0) (N := 11) hx hb hts inX0 hown hK hP 0 rfl rfl 2 (by decide) (hts _ kw_55) (fun _ h9 => h9) rfl dX0_leftOf_14 ?_
    refine lv_ishl hx hb dX0_leftOf_17 ?_
    refine lv_goto (tgt := 22) hx hb dX0_leftOf_18 (by decide) ?_
    exact W.iret (v := (a1 - a1 / fc * fc) <<< (fs &&& 31)) hx hb hr (fun t ht hW => ⟨⟨_, (), rfl, (show (a1 - a1 / fc * fc) <<< (fs &&& 31) = tb_left fs fc a1 by unfold tb_left; rw [if_neg c_1]), trivial⟩, hS.F ht⟩) hS.2.2 dX0_leftOf_22
def tb_top (fs fc a1 : Int32) : Int32 := (if fc ≤ 0 then 0 else (a1 / fc) <<< (fs &&& 31))
set_option maxHeartbeats 4000000 in
set_option maxRecDepth 100000 in
theorem mtX0_topOf (l : Launch) (dC : Nat → ClassId) (dI : Nat → Nat → Nat) (h0 q1 : Nat) (cA : ClassId) (fw fh fs fc fl fe fi ft fo fa : Int32) (an : Nat) (af : Nat → Int32) (sz : Nat) (a1 : Int32) : Met l yX0_topOf wsX0_topOf ({ frames := 0, cells := 0, slots := 0, locals := 0 }) (va_Pc [.ref h0, .int a1] (ro_P (dC, dI) vwCl [(h0, .inr (0, [.int fw, .int fh, .int fs, .int fc, .int fl, .int fe, .ref q1, .int fi, .int ft, .int fo, .int fa])), (q1, .inl (cA, an, .inl af))] [(cA, .int)] sz)) (va_Qi (fun (r : Int32) (_ : Unit) => r = tb_top fs fc a1) (fun _ _ => True) (ro_A sz)) 0 0 (ro_A sz) := by
  refine Met.ofW (cc := cX0_topOf) (maxL := 2) (ret := (some .int)) (by decide) rfl ?_
  intro p e s m args below meth c s₁ B hml hv
  obtain ⟨rfl, hsz, hP, hK⟩ := hv
  have hx := B.exec
  have hb := B.bytes
  have hr := B.returns
  have hts : ∀ w ∈ gb, w.before _ s = true := fun w h => atoms_spec (ws := wsX0_topOf) B.pre w (List.mem_cons_of_mem _ h)
  have hown : s.vm.findClass "TileBins" = some m.cls := findClass_of_methodNamed B.named
  have hlocks := B.notSynchronized
  subst hsz
  have hA : ∀ q : Nat, s.heap.size ≤ q → ro_A s.heap.size q := fun q h => h
  have hS : va_S (ro_A s.heap.size) s.heap s.heap [] := va_S.rf
  have hl := lv_entry ([.ref h0, .int a1]) (n := 2) (Nat.le_of_ble_eq_true rfl)
  rw [lg_entry_eq]
  generalize (lg_sl ([.ref h0, .int a1]) ++ List.replicate (2 - (lg_sl ([.ref h0, .int a1])).length) Slot.unset).toArray = ls at hl ⊢
  have hl : lv_has ls 2 [(0, .ref h0), (1, .int a1)] := hl
  refine lv_aload_n hx hb dX0_topOf_0 rfl (lv_at hl 0 rfl) ?_
  refine va_get (D := (dC, dI)) (ci := 0) (v := .int fc) (C := "TileBins") (T := TX0) (N := 11) hx hb hts inX0 hown hK hP 0 rfl rfl 3 (by decide) (hts _ kw_56) (fun _ h9 => h9) rfl dX0_topOf_1 ?_
  refine lv_if_le (tgt := 21) hx hb dX0_topOf_4 (by decide) (fun c_1 => ?_) (fun c_1 => ?_)
  · refine lv_iconst (v := 0) hx hb dX0_topOf_21 (by first | rfl | decide) ?_
    exact W.iret (v := 0) hx hb hr (fun t ht hW => ⟨⟨_, (), rfl, (show 0 = tb_top fs fc a1 by unfold tb_top; rw [if_pos c_1]), trivial⟩, hS.F ht⟩) hS.2.2 dX0_topOf_22
  · refine lv_iload_n hx hb dX0_topOf_7 rfl (lv_at hl 1 rfl) ?_
    refine lv_aload_n hx hb dX0_topOf_8 rfl (lv_at hl 0 rfl) ?_
    refine va_get (D := (dC, dI)) (ci := 0) (v := .int fc) (C := "TileBins") (T := TX0) (N := 11) hx hb hts inX0 hown hK hP 0 rfl rfl 3 (by decide) (hts _ kw_56) (fun _ h9 => h9) rfl dX0_topOf_9 ?_
    refine lv_idiv hx hb dX0_topOf_12 (fun h => c_1 (by rw [h]; decide)) ?_
    refine lv_aload_n hx hb dX0_topOf_13 rfl (lv_at hl 0 rfl) ?_
    refine va_get (D := (dC, dI)) (ci := 0) (v := .int fs) (C := "TileBins") (T := TX0) (N := 11) hx hb hts inX0 hown hK hP 0 rfl rfl 2 (by decide) (hts _ kw_55) (fun _ h9 => h9) rfl dX0_topOf_14 ?_
    refine lv_ishl hx hb dX0_topOf_17 ?_
    refine lv_goto (tgt := 22) hx hb dX0_topOf_18 (by decide) ?_
    exact W.iret (v := (a1 / fc) <<< (fs &&& 31)) hx hb hr (fun t ht hW => ⟨⟨_, (), rfl, (show (a1 / fc) <<< (fs &&& 31) = tb_top fs fc a1 by unfold tb_top; rw [if_neg c_1]), trivial⟩, hS.F ht⟩) hS.2.2 dX0_topOf_22
def tb_within (a1 a2 a3 : Int32) : Int32 := (if a1 < a2 then 0 else (if a3 < a1 then 0 else 1))
set_option maxHeartbeats 4000000 in
set_option maxRecDepth 100000 in
theorem mtX0_isWithin (l : Launch) (dC : Nat → ClassId) (dI : Nat → Nat → Nat)  (sz : Nat) (a1 a2 a3 : Int32) : Met l yX0_isWithin wsX0_isWithin ({ frames := 0, cells := 0, slots := 0, locals := 0 }) (va_Pc [.int a1, .int a2, .int a3] (ro_P (dC, dI) vwCl [] [] sz)) (va_Qi (fun (r : Int32) (_ : Unit) => r = tb_within a1 a2 a3) (fun _ _ => True) (ro_A sz)) 0 0 (ro_A sz) := by
  refine Met.ofW (cc := cX0_isWithin) (maxL := 3) (ret := (some .boolean)) (by decide) rfl ?_
  intro p e s m args below meth c s₁ B hml hv
  obtain ⟨rfl, hsz, hP, hK⟩ := hv
  have hx := B.exec
  have hb := B.bytes
  have hr := B.returns
  have hts : ∀ w ∈ gb, w.before _ s = true := fun w h => atoms_spec (ws := wsX0_isWithin) B.pre w (List.mem_cons_of_mem _ h)
  have hown : s.vm.findClass "TileBins" = some m.cls := findClass_of_methodNamed B.named
  have hlocks := B.notSynchronized
  subst hsz
  have hA : ∀ q : Nat, s.heap.size ≤ q → ro_A s.heap.size q := fun q h => h
  have hS : va_S (ro_A s.heap.size) s.heap s.heap [] := va_S.rf
  have hl := lv_entry ([.int a1, .int a2, .int a3]) (n := 3) (Nat.le_of_ble_eq_true rfl)
  rw [lg_entry_eq]
  generalize (lg_sl ([.int a1, .int a2, .int a3]) ++ List.replicate (3 - (lg_sl ([.int a1, .int a2, .int a3])).length) Slot.unset).toArray = ls at hl ⊢
  have hl : lv_has ls 3 [(0, .int a1), (1, .int a2), (2, .int a3)] := hl
  refine lv_iload_n hx hb dX0_isWithin_0 rfl (lv_at hl 0 rfl) ?_
  refine lv_iload_n hx hb dX0_isWithin_1 rfl (lv_at hl 1 rfl) ?_
  refine lv_icmp_lt (tgt := 14) hx hb dX0_isWithin_2 (by decide) (fun c_1 => ?_) (fun c_1 => ?_)
  · refine lv_iconst (v := 0) hx hb dX0_isWithin_14 (by first | rfl | decide) ?_
    exact W.zret (v := 0) hx hb hr (by rfl) (fun t ht hW => ⟨⟨_, (), rfl, (show 0 = tb_within a1 a2 a3 by unfold tb_within; rw [if_pos c_1]), trivial⟩, hS.F ht⟩) hS.2.2 dX0_isWithin_15
  · refine lv_iload_n hx hb dX0_isWithin_5 rfl (lv_at hl 0 rfl) ?_
    refine lv_iload_n hx hb dX0_isWithin_6 rfl (lv_at hl 2 rfl) ?_
    refine lv_icmp_gt (tgt := 14) hx hb dX0_isWithin_7 (by decide) (fun c_2 => ?_) (fun c_2 => ?_)
    · refine lv_iconst (v := 0) hx hb dX0_isWithin_14 (by first | rfl | decide) ?_
      exact W.zret (v := 0) hx hb hr (by rfl) (fun t ht hW => ⟨⟨_, (), rfl, (show 0 = tb_within a1 a2 a3 by unfold tb_within; rw [if_neg c_1, if_pos c_2]), trivial⟩, hS.F ht⟩) hS.2.2 dX0_isWithin_15
    · refine lv_iconst (v := 1) hx hb dX0_isWithin_10 (by first | rfl | decide) ?_
      refine lv_goto (tgt := 15) hx hb dX0_isWithin_11 (by decide) ?_
      exact W.zret (v := 1) hx hb hr (by rfl) (fun t ht hW => ⟨⟨_, (), rfl, (show 1 = tb_within a1 a2 a3 by unfold tb_within; rw [if_neg c_1, if_neg c_2]), trivial⟩, hS.F ht⟩) hS.2.2 dX0_isWithin_15
def tb_power (a1 : Int32) : Int32 := (if a1 = 8 then 3 else (if a1 = 16 then 4 else (if a1 = 32 then 5 else (if a1 = 64 then 6 else (-1)))))
set_option maxHeartbeats 4000000 in
set_option maxRecDepth 100000 in
theorem mtX0_powerOf (l : Launch) (dC : Nat → ClassId) (dI : Nat → Nat → Nat)  (sz : Nat) (a1 : Int32) : Met l yX0_powerOf wsX0_powerOf ({ frames := 0, cells := 0, slots := 0, locals := 0 }) (va_Pc [.int a1] (ro_P (dC, dI) vwCl [] [] sz)) (va_Qi (fun (r : Int32) (_ : Unit) => r = tb_power a1) (fun _ _ => True) (ro_A sz)) 0 0 (ro_A sz) := by
  refine Met.ofW (cc := cX0_powerOf) (maxL := 1) (ret := (some .int)) (by decide) rfl ?_
  intro p e s m args below meth c s₁ B hml hv
  obtain ⟨rfl, hsz, hP, hK⟩ := hv
  have hx := B.exec
  have hb := B.bytes
  have hr := B.returns
  have hts : ∀ w ∈ gb, w.before _ s = true := fun w h => atoms_spec (ws := wsX0_powerOf) B.pre w (List.mem_cons_of_mem _ h)
  have hown : s.vm.findClass "TileBins" = some m.cls := findClass_of_methodNamed B.named
  have hlocks := B.notSynchronized
  subst hsz
  have hA : ∀ q : Nat, s.heap.size ≤ q → ro_A s.heap.size q := fun q h => h
  have hS : va_S (ro_A s.heap.size) s.heap s.heap [] := va_S.rf
  have hl := lv_entry ([.int a1]) (n := 1) (Nat.le_of_ble_eq_true rfl)
  rw [lg_entry_eq]
  generalize (lg_sl ([.int a1]) ++ List.replicate (1 - (lg_sl ([.int a1])).length) Slot.unset).toArray = ls at hl ⊢
  have hl : lv_has ls 1 [(0, .int a1)] := hl
  refine lv_iload_n hx hb dX0_powerOf_0 rfl (lv_at hl 0 rfl) ?_
  rcases Classical.em (a1 = 8) with c_1 | c_1
  · refine lv_lookup (off := 43) (tgt := 44) hx hb dX0_powerOf_1 (by decide) (by rw [c_1]; decide) (by decide) ?_
    refine lv_iconst (v := 3) hx hb dX0_powerOf_44 (by first | rfl | decide) ?_
    exact W.iret (v := 3) hx hb hr (fun t ht hW => ⟨⟨_, (), rfl, (show 3 = tb_power a1 by unfold tb_power; rw [if_pos c_1]), trivial⟩, hS.F ht⟩) hS.2.2 dX0_powerOf_45
  · rcases Classical.em (a1 = 16) with c_2 | c_2
    · refine lv_lookup (off := 45) (tgt := 46) hx hb dX0_powerOf_1 (by decide) (by rw [c_2]; decide) (by decide) ?_
      refine lv_iconst (v := 4) hx hb dX0_powerOf_46 (by first | rfl | decide) ?_
      exact W.iret (v := 4) hx hb hr (fun t ht hW => ⟨⟨_, (), rfl, (show 4 = tb_power a1 by unfold tb_power; rw [if_neg c_1, if_pos c_2]), trivial⟩, hS.F ht⟩) hS.2.2 dX0_powerOf_47
    · rcases Classical.em (a1 = 32) with c_3 | c_3
      · refine lv_lookup (off := 47) (tgt := 48) hx hb dX0_powerOf_1 (by decide) (by rw [c_3]; decide) (by decide) ?_
        refine lv_iconst (v := 5) hx hb dX0_powerOf_48 (by first | rfl | decide) ?_
        exact W.iret (v := 5) hx hb hr (fun t ht hW => ⟨⟨_, (), rfl, (show 5 = tb_power a1 by unfold tb_power; rw [if_neg c_1, if_neg c_2, if_pos c_3]), trivial⟩, hS.F ht⟩) hS.2.2 dX0_powerOf_49
      · rcases Classical.em (a1 = 64) with c_4 | c_4
        · refine lv_lookup (off := 49) (tgt := 50) hx hb dX0_powerOf_1 (by decide) (by rw [c_4]; decide) (by decide) ?_
          refine lv_bipush (v := 6) hx hb dX0_powerOf_50 (by first | rfl | decide) ?_
          exact W.iret (v := 6) hx hb hr (fun t ht hW => ⟨⟨_, (), rfl, (show 6 = tb_power a1 by unfold tb_power; rw [if_neg c_1, if_neg c_2, if_neg c_3, if_pos c_4]), trivial⟩, hS.F ht⟩) hS.2.2 dX0_powerOf_52
        · refine lv_lookup (off := 52) (tgt := 53) hx hb dX0_powerOf_1 (by decide) (by rw [lv_osw c_1 (by decide), lv_osw c_2 (by decide), lv_osw c_3 (by decide), lv_osw c_4 (by decide)]; rfl) (by decide) ?_
          refine lv_iconst (v := (-1)) hx hb dX0_powerOf_53 (by first | rfl | decide) ?_
          exact W.iret (v := (-1)) hx hb hr (fun t ht hW => ⟨⟨_, (), rfl, (show (-1) = tb_power a1 by unfold tb_power; rw [if_neg c_1, if_neg c_2, if_neg c_3, if_neg c_4]), trivial⟩, hS.F ht⟩) hS.2.2 dX0_powerOf_54
end
section
def tb_touch (fs : Int32) (af : Nat → Int32) (a1 a2 a3 : Int32) : Int32 := (if (a2 + (tb_side fs)) ≤ (af ((a1 * 6) + 0).toNatClampNeg) then 0 else (if (af ((a1 * 6) + 2).toNatClampNeg) ≤ a2 then 0 else (if (a3 + (tb_side fs)) ≤ (af ((a1 * 6) + 1).toNatClampNeg) then 0 else (if (af ((a1 * 6) + 3).toNatClampNeg) ≤ a3 then 0 else 1))))
set_option maxHeartbeats 4000000 in
set_option maxRecDepth 100000 in
theorem mtX0_touches (l : Launch) (dC : Nat → ClassId) (dI : Nat → Nat → Nat) (h0 q1 : Nat) (cA : ClassId) (fw fh fs fc fl fe fi ft fo fa : Int32) (an : Nat) (af : Nat → Int32) (sz : Nat) (a1 a2 a3 : Int32) (j : Nat) (hj : a1 = nI j) (hjb : j * 6 + 5 < an) (han : an < 2 ^ 31) : Met l yX0_touches wsX0_touches ({ frames := 1, cells := 0, slots := 0, locals := 20 }) (va_Pc [.ref h0, .int a1, .int a2, .int a3] (ro_P (dC, dI) vwCl [(h0, .inr (0, [.int fw, .int fh, .int fs, .int fc, .int fl, .int fe, .ref q1, .int fi, .int ft, .int fo, .int fa])), (q1, .inl (cA, an, .inl af))] [(cA, .int)] sz)) (va_Qi (fun (r : Int32) (_ : Unit) => r = tb_touch fs af a1 a2 a3) (fun _ _ => True) (ro_A sz)) 0 0 (ro_A sz) := by
  refine Met.ofW (cc := cX0_touches) (maxL := 5) (ret := (some .boolean)) (by decide) rfl ?_
  intro p e s m args below meth c s₁ B hml hv
  obtain ⟨rfl, hsz, hP, hK⟩ := hv
  have hx := B.exec
  have hb := B.bytes
  have hr := B.returns
  have hts : ∀ w ∈ gb, w.before _ s = true := fun w h => atoms_spec (ws := wsX0_touches) B.pre w (List.mem_cons_of_mem _ h)
  have hown : s.vm.findClass "TileBins" = some m.cls := findClass_of_methodNamed B.named
  have hlocks := B.notSynchronized
  subst hsz
  have hA : ∀ q : Nat, s.heap.size ≤ q → ro_A s.heap.size q := fun q h => h
  have hS : va_S (ro_A s.heap.size) s.heap s.heap [] := va_S.rf
  have hl := lv_entry ([.ref h0, .int a1, .int a2, .int a3]) (n := 5) (Nat.le_of_ble_eq_true rfl)
  rw [lg_entry_eq]
  generalize (lg_sl ([.ref h0, .int a1, .int a2, .int a3]) ++ List.replicate (5 - (lg_sl ([.ref h0, .int a1, .int a2, .int a3])).length) Slot.unset).toArray = ls at hl ⊢
  have hl : lv_has ls 5 [(0, .ref h0), (1, .int a1), (2, .int a2), (3, .int a3)] := hl
  refine lv_iload_n hx hb dX0_touches_0 rfl (lv_at hl 1 rfl) ?_
  refine lv_bipush (v := 6) hx hb dX0_touches_1 (by first | rfl | decide) ?_
  refine lv_imul hx hb dX0_touches_3 ?_
  refine lv_istore (lv' := [(4, .int (a1 * 6)), (0, .ref h0), (1, .int a1), (2, .int a2), (3, .int a3)]) hx hb dX0_touches_4 hl (by decide) rfl (fun ls hl => ?_)
  refine lv_aload_n hx hb dX0_touches_6 rfl (lv_at hl 1 rfl) ?_
  refine va_get (D := (dC, dI)) (ci := 0) (v := .ref q1) (C := "TileBins") (T := TX0) (N := 11) hx hb hts inX0 hown hK hP 0 rfl rfl 6 (by decide) (hts _ kw_59) (fun _ h9 => h9) rfl dX0_touches_7 ?_
  refine lv_iload hx hb dX0_touches_10 (lv_at hl 0 rfl) ?_
  refine lv_iconst (v := 0) hx hb dX0_touches_12 (by first | rfl | decide) ?_
  refine lv_iadd hx hb dX0_touches_13 ?_
  refine va_iald hx hb hK hP 1 0 rfl rfl (lm_ix (k := 0) hj (by decide) (by decide) hjb han) dX0_touches_14 ?_
  refine lv_iload_n hx hb dX0_touches_15 rfl (lv_at hl 3 rfl) ?_
  refine lv_aload_n hx hb dX0_touches_16 rfl (lv_at hl 1 rfl) ?_
  refine ro_calli (va_runV (As := []) (rest := [.int a2, .int (af ((a1 * 6) + 0).toNatClampNeg)]) ⟨hx, hb, hml, hown, hts⟩ (mtX0_sideLength l dC dI h0 q1 cA fw fh fs fc fl fe fi ft fo fa an af s.heap.size ) (cwV 0 hts (gb_v kw_256 kw_258 kw_11 kw_22 kw_259) rfl rfl rfl (by decide +kernel) ⟨Nat.le_of_ble_eq_true rfl, Nat.le_of_ble_eq_true rfl⟩) ⟨ro_P.blind, va_recv hK hP (ci := 0) (q0 := 0) rfl rfl, ro_P.at hP hK⟩ rfl rfl hl.1 rfl (lv_room (Nat.le_of_ble_eq_true rfl)) dX0_touches_17 ⟨Nat.le_of_ble_eq_true rfl, Nat.le_of_ble_eq_true rfl⟩) hP hS hA (fun H locs hP hS hz hk => ?_)
  refine lv_iadd hx hb dX0_touches_20 ?_
  refine lv_icmp_ge (tgt := 72) hx hb dX0_touches_21 (by decide) (fun c_1 => ?_) (fun c_1 => ?_)
  · refine lv_iconst (v := 0) hx hb dX0_touches_72 (by first | rfl | decide) ?_
    exact W.zret (v := 0) hx hb hr (by rfl) (fun t ht hW => ⟨⟨_, (), rfl, (show 0 = tb_touch fs af a1 a2 a3 by unfold tb_touch; rw [if_pos c_1]), trivial⟩, hS.F ht⟩) hS.2.2 dX0_touches_73
  · refine lv_iload_n hx hb dX0_touches_24 rfl (lv_at hl 3 rfl) ?_
    refine lv_aload_n hx hb dX0_touches_25 rfl (lv_at hl 1 rfl) ?_
    refine va_get (D := (dC, dI)) (ci := 0) (v := .ref q1) (C := "TileBins") (T := TX0) (N := 11) hx hb hts inX0 hown hK hP 0 rfl rfl 6 (by decide) (hts _ kw_59) (fun _ h9 => h9) rfl dX0_touches_26 ?_
    refine lv_iload hx hb dX0_touches_29 (lv_at hl 0 rfl) ?_
    refine lv_iconst (v := 2) hx hb dX0_touches_31 (by first | rfl | decide) ?_
    refine lv_iadd hx hb dX0_touches_32 ?_
    refine va_iald hx hb hK hP 1 0 rfl rfl (lm_ix (k := 2) hj (by decide) (by decide) hjb han) dX0_touches_33 ?_
    refine lv_icmp_ge (tgt := 72) hx hb dX0_touches_34 (by decide) (fun c_2 => ?_) (fun c_2 => ?_)
    · refine lv_iconst (v := 0) hx hb dX0_touches_72 (by first | rfl | decide) ?_
      exact W.zret (v := 0) hx hb hr (by rfl) (fun t ht hW => ⟨⟨_, (), rfl, (show 0 = tb_touch fs af a1 a2 a3 by unfold tb_touch; rw [if_neg c_1, if_pos c_2]), trivial⟩, hS.F ht⟩) hS.2.2 dX0_touches_73
    · refine lv_aload_n hx hb dX0_touches_37 rfl (lv_at hl 1 rfl) ?_
      refine va_get (D := (dC, dI)) (ci := 0) (v := .ref q1) (C := "TileBins") (T := TX0) (N := 11) hx hb hts inX0 hown hK hP 0 rfl rfl 6 (by decide) (hts _ kw_59) (fun _ h9 => h9) rfl dX0_touches_38 ?_
      refine lv_iload hx hb dX0_touches_41 (lv_at hl 0 rfl) ?_
      refine lv_iconst (v := 1) hx hb dX0_touches_43 (by first | rfl | decide) ?_
      refine lv_iadd hx hb dX0_touches_44 ?_
      refine va_iald hx hb hK hP 1 0 rfl rfl (lm_ix (k := 1) hj (by decide) (by decide) hjb han) dX0_touches_45 ?_
      refine lv_iload_n hx hb dX0_touches_46 rfl (lv_at hl 4 rfl) ?_
      refine lv_aload_n hx hb dX0_touches_47 rfl (lv_at hl 1 rfl) ?_
      refine ro_calli (va_runV (As := []) (rest := [.int a3, .int (af ((a1 * 6) + 1).toNatClampNeg)]) ⟨hx, hb, hml, hown, hts⟩ (mtX0_sideLength l dC dI h0 q1 cA fw fh fs fc fl fe fi ft fo fa an af H.size ) (cwV 0 hts (gb_v kw_256 kw_258 kw_11 kw_22 kw_259) rfl rfl rfl (by decide +kernel) ⟨Nat.le_of_ble_eq_true rfl, Nat.le_of_ble_eq_true rfl⟩) ⟨ro_P.blind, va_recv hK hP (ci := 0) (q0 := 0) rfl rfl, ro_P.at hP hK⟩ rfl rfl hl.1 rfl (lv_room (Nat.le_of_ble_eq_true rfl)) dX0_touches_48 ⟨Nat.le_of_ble_eq_true rfl, Nat.le_of_ble_eq_true rfl⟩) hP hS hA (fun H locs hP hS hz hk => ?_)
      refine lv_iadd hx hb dX0_touches_51 ?_
      refine lv_icmp_ge (tgt := 72) hx hb dX0_touches_52 (by decide) (fun c_3 => ?_) (fun c_3 => ?_)
      · refine lv_iconst (v := 0) hx hb dX0_touches_72 (by first | rfl | decide) ?_
        exact W.zret (v := 0) hx hb hr (by rfl) (fun t ht hW => ⟨⟨_, (), rfl, (show 0 = tb_touch fs af a1 a2 a3 by unfold tb_touch; rw [if_neg c_1, if_neg c_2, if_pos c_3]), trivial⟩, hS.F ht⟩) hS.2.2 dX0_touches_73
      · refine lv_iload_n hx hb dX0_touches_55 rfl (lv_at hl 4 rfl) ?_
        refine lv_aload_n hx hb dX0_touches_56 rfl (lv_at hl 1 rfl) ?_
        refine va_get (D := (dC, dI)) (ci := 0) (v := .ref q1) (C := "TileBins") (T := TX0) (N := 11) hx hb hts inX0 hown hK hP 0 rfl rfl 6 (by decide) (hts _ kw_59) (fun _ h9 => h9) rfl dX0_touches_57 ?_
        refine lv_iload hx hb dX0_touches_60 (lv_at hl 0 rfl) ?_
        refine lv_iconst (v := 3) hx hb dX0_touches_62 (by first | rfl | decide) ?_
        refine lv_iadd hx hb dX0_touches_63 ?_
        refine va_iald hx hb hK hP 1 0 rfl rfl (lm_ix (k := 3) hj (by decide) (by decide) hjb han) dX0_touches_64 ?_
        refine lv_icmp_ge (tgt := 72) hx hb dX0_touches_65 (by decide) (fun c_4 => ?_) (fun c_4 => ?_)
        · refine lv_iconst (v := 0) hx hb dX0_touches_72 (by first | rfl | decide) ?_
          exact W.zret (v := 0) hx hb hr (by rfl) (fun t ht hW => ⟨⟨_, (), rfl, (show 0 = tb_touch fs af a1 a2 a3 by unfold tb_touch; rw [if_neg c_1, if_neg c_2, if_neg c_3, if_pos c_4]), trivial⟩, hS.F ht⟩) hS.2.2 dX0_touches_73
        · refine lv_iconst (v := 1) hx hb dX0_touches_68 (by first | rfl | decide) ?_
          refine lv_goto (tgt := 73) hx hb dX0_touches_69 (by decide) ?_
          exact W.zret (v := 1) hx hb hr (by rfl) (fun t ht hW => ⟨⟨_, (), rfl, (show 1 = tb_touch fs af a1 a2 a3 by unfold tb_touch; rw [if_neg c_1, if_neg c_2, if_neg c_3, if_neg c_4]), trivial⟩, hS.F ht⟩) hS.2.2 dX0_touches_73
/-- how many of the first items touch the tile at (lf, tp) -/
def tb_cnt (fs : Int32) (af : Nat → Int32) (lf tp : Int32) : Nat → Int32
  | 0 => 0
  | j + 1 => if tb_touch fs af (nI j) lf tp = 0 then tb_cnt fs af lf tp j else tb_cnt fs af lf tp j + 1
theorem tb_cnt_s (fs : Int32) (af : Nat → Int32) (lf tp : Int32) (j : Nat) : tb_cnt fs af lf tp (j + 1) = if tb_touch fs af (nI j) lf tp = 0 then tb_cnt fs af lf tp j else tb_cnt fs af lf tp j + 1 := rfl
def tb_many (fs fc fi : Int32) (af : Nat → Int32) (a1 : Int32) : Int32 := tb_cnt fs af (tb_left fs fc a1) (tb_top fs fc a1) fi.toNatClampNeg
set_option maxHeartbeats 4000000 in
set_option maxRecDepth 100000 in
theorem mtX0_itemsTouching (l : Launch) (dC : Nat → ClassId) (dI : Nat → Nat → Nat) (h0 q1 : Nat) (cA : ClassId) (fw fh fs fc fl fe fi ft fo fa : Int32) (an : Nat) (af : Nat → Int32) (sz : Nat) (a1 : Int32) (N : Nat) (hN : fi = nI N) (hNb : N * 6 ≤ an) (han : an < 2 ^ 31) : Met l yX0_itemsTouching wsX0_itemsTouching ({ frames := 2, cells := 0, slots := 0, locals := 44 }) (va_Pc [.ref h0, .int a1] (ro_P (dC, dI) vwCl [(h0, .inr (0, [.int fw, .int fh, .int fs, .int fc, .int fl, .int fe, .ref q1, .int fi, .int ft, .int fo, .int fa])), (q1, .inl (cA, an, .inl af))] [(cA, .int)] sz)) (va_Qi (fun (r : Int32) (_ : Unit) => r = tb_many fs fc fi af a1) (fun _ _ => True) (ro_A sz)) 0 0 (ro_A sz) := by
  refine Met.ofW (cc := cX0_itemsTouching) (maxL := 6) (ret := (some .int)) (by decide) rfl ?_
  intro p e s m args below meth c s₁ B hml hv
  obtain ⟨rfl, hsz, hP, hK⟩ := hv
  have hx := B.exec
  have hb := B.bytes
  have hr := B.returns
  have hts : ∀ w ∈ gb, w.before _ s = true := fun w h => atoms_spec (ws := wsX0_itemsTouching) B.pre w (List.mem_cons_of_mem _ h)
  have hown : s.vm.findClass "TileBins" = some m.cls := findClass_of_methodNamed B.named
  have hlocks := B.notSynchronized
  subst hsz
  have hA : ∀ q : Nat, s.heap.size ≤ q → ro_A s.heap.size q := fun q h => h
  have hS : va_S (ro_A s.heap.size) s.heap s.heap [] := va_S.rf
  have hl := lv_entry ([.ref h0, .int a1]) (n := 6) (Nat.le_of_ble_eq_true rfl)
  rw [lg_entry_eq]
  generalize (lg_sl ([.ref h0, .int a1]) ++ List.replicate (6 - (lg_sl ([.ref h0, .int a1])).length) Slot.unset).toArray = ls at hl ⊢
  have hl : lv_has ls 6 [(0, .ref h0), (1, .int a1)] := hl
  refine lv_aload_n hx hb dX0_itemsTouching_0 rfl (lv_at hl 0 rfl) ?_
  refine lv_iload_n hx hb dX0_itemsTouching_1 rfl (lv_at hl 1 rfl) ?_
  refine ro_calli (va_runV (As := [.int a1]) (rest := []) ⟨hx, hb, hml, hown, hts⟩ (mtX0_leftOf l dC dI h0 q1 cA fw fh fs fc fl fe fi ft fo fa an af s.heap.size a1) (cwV 1 hts (gb_v kw_244 kw_246 kw_8 kw_22 kw_247) rfl rfl rfl (by decide +kernel) ⟨Nat.le_of_ble_eq_true rfl, Nat.le_of_ble_eq_true rfl⟩) ⟨ro_P.blind, va_recv hK hP (ci := 0) (q0 := 0) rfl rfl, ro_P.at hP hK⟩ rfl rfl hl.1 rfl (lv_room (Nat.le_of_ble_eq_true rfl)) dX0_itemsTouching_2 ⟨Nat.le_of_ble_eq_true rfl, Nat.le_of_ble_eq_true rfl⟩) hP hS hA (fun H locs hP hS hz hk => ?_)
  refine lv_istore_n (lv' := [(2, .int (tb_left fs fc a1)), (0, .ref h0), (1, .int a1)]) hx hb dX0_itemsTouching_5 rfl hl (by decide) rfl (fun ls hl => ?_)
  refine lv_aload_n hx hb dX0_itemsTouching_6 rfl (lv_at hl 1 rfl) ?_
  refine lv_iload_n hx hb dX0_itemsTouching_7 rfl (lv_at hl 2 rfl) ?_
  refine ro_calli (va_runV (As := [.int a1]) (rest := []) ⟨hx, hb, hml, hown, hts⟩ (mtX0_topOf l dC dI h0 q1 cA fw fh fs fc fl fe fi ft fo fa an af H.size a1) (cwV 1 hts (gb_v kw_248 kw_250 kw_9 kw_22 kw_251) rfl rfl rfl (by decide +kernel) ⟨Nat.le_of_ble_eq_true rfl, Nat.le_of_ble_eq_true rfl⟩) ⟨ro_P.blind, va_recv hK hP (ci := 0) (q0 := 0) rfl rfl, ro_P.at hP hK⟩ rfl rfl hl.1 rfl (lv_room (Nat.le_of_ble_eq_true rfl)) dX0_itemsTouching_8 ⟨Nat.le_of_ble_eq_true rfl, Nat.le_of_ble_eq_true rfl⟩) hP hS hA (fun H locs hP hS hz hk => ?_)
  refine lv_istore_n (lv' := [(3, .int (tb_top fs fc a1)), (2, .int (tb_left fs fc a1)), (0, .ref h0), (1, .int a1)]) hx hb dX0_itemsTouching_11 rfl hl (by decide) rfl (fun ls hl => ?_)
  refine lv_iconst (v := 0) hx hb dX0_itemsTouching_12 (by first | rfl | decide) ?_
  refine lv_istore (lv' := [(4, .int 0), (3, .int (tb_top fs fc a1)), (2, .int (tb_left fs fc a1)), (0, .ref h0), (1, .int a1)]) hx hb dX0_itemsTouching_13 hl (by decide) rfl (fun ls hl => ?_)
  refine lv_iconst (v := 0) hx hb dX0_itemsTouching_15 (by first | rfl | decide) ?_
  refine lv_istore (lv' := [(5, .int 0), (4, .int 0), (3, .int (tb_top fs fc a1)), (2, .int (tb_left fs fc a1)), (0, .ref h0), (1, .int a1)]) hx hb dX0_itemsTouching_16 hl (by decide) rfl (fun ls hl => ?_)
  refine loopW (pc := 18) (fun d H locs ls => ∃ (j : Nat) (y4 : Int32), j + d = N ∧ y4 = tb_cnt fs af (tb_left fs fc a1) (tb_top fs fc a1) j ∧ va_P (dC, dI) vwCl [(h0, .inr (0, [.int fw, .int fh, .int fs, .int fc, .int fl, .int fe, .ref q1, .int fi, .int ft, .int fo, .int fa])), (q1, .inl (cA, an, .inl af))] H ∧ va_S (ro_A s.heap.size) s.heap H locs ∧ lv_has ls 6 [(5, .int (nI j)), (4, .int y4), (3, .int (tb_top fs fc a1)), (2, .int (tb_left fs fc a1)), (0, .ref h0), (1, .int a1)]) (fun d H locs ls hI ih => ?_) N ⟨0, 0, by omega, rfl, hP, hS, hl⟩
  obtain ⟨j, y4, hjd, hy, hP, hS, hl⟩ := hI
  refine lv_iload hx hb dX0_itemsTouching_18 (lv_at hl 0 rfl) ?_
  refine lv_aload_n hx hb dX0_itemsTouching_20 rfl (lv_at hl 4 rfl) ?_
  refine va_get (D := (dC, dI)) (ci := 0) (v := .int fi) (C := "TileBins") (T := TX0) (N := 11) hx hb hts inX0 hown hK hP 0 rfl rfl 7 (by decide) (hts _ kw_60) (fun _ h9 => h9) rfl dX0_itemsTouching_21 ?_
  refine lv_icmp_ge (tgt := 47) hx hb dX0_itemsTouching_24 (by decide) (fun c_1 => ?_) (fun c_1 => ?_)
  · refine lv_iload hx hb dX0_itemsTouching_47 (lv_at hl 1 rfl) ?_
    exact W.iret (v := y4) hx hb hr (fun t ht hW => ⟨⟨_, (), rfl, (by have hjN := lm_end hN (by omega) (by omega) c_1; rw [hy, hjN]; unfold tb_many; rw [hN, nI_clamp (by omega)]), trivial⟩, hS.F ht⟩) hS.2.2 dX0_itemsTouching_49
  · refine lv_aload_n hx hb dX0_itemsTouching_27 rfl (lv_at hl 4 rfl) ?_
    refine lv_iload hx hb dX0_itemsTouching_28 (lv_at hl 0 rfl) ?_
    refine lv_iload_n hx hb dX0_itemsTouching_30 rfl (lv_at hl 3 rfl) ?_
    refine lv_iload_n hx hb dX0_itemsTouching_31 rfl (lv_at hl 2 rfl) ?_
    refine ro_calli (va_runV (As := [.int (nI j), .int (tb_left fs fc a1), .int (tb_top fs fc a1)]) (rest := []) ⟨hx, hb, hml, hown, hts⟩ (mtX0_touches l dC dI h0 q1 cA fw fh fs fc fl fe fi ft fo fa an af H.size (nI j) (tb_left fs fc a1) (tb_top fs fc a1) j rfl (by have := lm_go hN (by omega) (by omega) c_1; omega) han) (cwV 3 hts (gb_v kw_252 kw_254 kw_10 kw_22 kw_255) rfl rfl rfl (by decide +kernel) ⟨Nat.le_of_ble_eq_true rfl, Nat.le_of_ble_eq_true rfl⟩) ⟨ro_P.blind, va_recv hK hP (ci := 0) (q0 := 0) rfl rfl, ro_P.at hP hK⟩ rfl rfl hl.1 rfl (lv_room (Nat.le_of_ble_eq_true rfl)) dX0_itemsTouching_32 ⟨Nat.le_of_ble_eq_true rfl, Nat.le_of_ble_eq_true rfl⟩) hP hS hA (fun H locs hP hS hz hk => ?_)
    refine lv_if_eq (tgt := 41) hx hb dX0_itemsTouching_35 (by decide) (fun c_2 => ?_) (fun c_2 => ?_)
    · refine lv_iinc (v := (nI j) + 1) (lv' := [(5, .int ((nI j) + 1)), (4, .int y4), (3, .int (tb_top fs fc a1)), (2, .int (tb_left fs fc a1)), (0, .ref h0), (1, .int a1)]) hx hb dX0_itemsTouching_41 hl (k := 0) rfl (by rfl) (by decide) rfl (fun ls hl => ?_)
      refine lv_goto (tgt := 18) hx hb dX0_itemsTouching_44 (by decide) ?_
      rw [nI_1] at hl
      exact ih (d - 1) _ _ _ (by have := lm_go hN (by omega) (by omega) c_1; omega) ⟨j + 1, _, by have := lm_go hN (by omega) (by omega) c_1; omega, (by rw [tb_cnt_s, if_pos c_2, hy]), hP, hS, lv_sub hl [0, 1, 2, 3, 4, 5] rfl⟩
    · refine lv_iinc (v := y4 + 1) (lv' := [(4, .int (y4 + 1)), (5, .int (nI j)), (3, .int (tb_top fs fc a1)), (2, .int (tb_left fs fc a1)), (0, .ref h0), (1, .int a1)]) hx hb dX0_itemsTouching_38 hl (k := 1) rfl (by rfl) (by decide) rfl (fun ls hl => ?_)
      refine lv_iinc (v := (nI j) + 1) (lv' := [(5, .int ((nI j) + 1)), (4, .int (y4 + 1)), (3, .int (tb_top fs fc a1)), (2, .int (tb_left fs fc a1)), (0, .ref h0), (1, .int a1)]) hx hb dX0_itemsTouching_41 hl (k := 1) rfl (by rfl) (by decide) rfl (fun ls hl => ?_)
      refine lv_goto (tgt := 18) hx hb dX0_itemsTouching_44 (by decide) ?_
      rw [nI_1] at hl
      exact ih (d - 1) _ _ _ (by have := lm_go hN (by omega) (by omega) c_1; omega) ⟨j + 1, _, by have := lm_go hN (by omega) (by omega) c_1; omega, (by rw [tb_cnt_s, if_neg c_2, hy]), hP, hS, lv_sub hl [0, 1, 2, 3, 4, 5] rfl⟩
/-- the first item from j on, of d that are left, that touches the tile at (lf, tp) -/
def tb_fst (fs : Int32) (af : Nat → Int32) (lf tp : Int32) : Nat → Nat → Int32
  | 0, _ => -1
  | d + 1, j => if tb_touch fs af (nI j) lf tp = 0 then tb_fst fs af lf tp d (j + 1) else nI j
theorem tb_fst_s (fs : Int32) (af : Nat → Int32) (lf tp : Int32) (d j : Nat) : tb_fst fs af lf tp (d + 1) j = if tb_touch fs af (nI j) lf tp = 0 then tb_fst fs af lf tp d (j + 1) else nI j := rfl
theorem tb_fst_0 (fs : Int32) (af : Nat → Int32) (lf tp : Int32) (j : Nat) : tb_fst fs af lf tp 0 j = -1 := rfl
def tb_find (fs fc fi : Int32) (af : Nat → Int32) (a1 a2 : Int32) : Int32 := tb_fst fs af (tb_left fs fc a1) (tb_top fs fc a1) (fi.toNatClampNeg - a2.toNatClampNeg) a2.toNatClampNeg
set_option maxHeartbeats 4000000 in
set_option maxRecDepth 100000 in
theorem mtX0_firstTouching (l : Launch) (dC : Nat → ClassId) (dI : Nat → Nat → Nat) (h0 q1 : Nat) (cA : ClassId) (fw fh fs fc fl fe fi ft fo fa : Int32) (an : Nat) (af : Nat → Int32) (sz : Nat) (a1 a2 : Int32) (N : Nat) (hN : fi = nI N) (hNb : N * 6 ≤ an) (han : an < 2 ^ 31) (j0 : Nat) (hj0 : a2 = nI j0) (hj0N : j0 ≤ N) : Met l yX0_firstTouching wsX0_firstTouching ({ frames := 2, cells := 0, slots := 0, locals := 44 }) (va_Pc [.ref h0, .int a1, .int a2] (ro_P (dC, dI) vwCl [(h0, .inr (0, [.int fw, .int fh, .int fs, .int fc, .int fl, .int fe, .ref q1, .int fi, .int ft, .int fo, .int fa])), (q1, .inl (cA, an, .inl af))] [(cA, .int)] sz)) (va_Qi (fun (r : Int32) (_ : Unit) => r = tb_find fs fc fi af a1 a2) (fun _ _ => True) (ro_A sz)) 0 0 (ro_A sz) := by
  refine Met.ofW (cc := cX0_firstTouching) (maxL := 6) (ret := (some .int)) (by decide) rfl ?_
  intro p e s m args below meth c s₁ B hml hv
  obtain ⟨rfl, hsz, hP, hK⟩ := hv
  have hx := B.exec
  have hb := B.bytes
  have hr := B.returns
  have hts : ∀ w ∈ gb, w.before _ s = true := fun w h => atoms_spec (ws := wsX0_firstTouching) B.pre w (List.mem_cons_of_mem _ h)
  have hown : s.vm.findClass "TileBins" = some m.cls := findClass_of_methodNamed B.named
  have hlocks := B.notSynchronized
  subst hsz
  have hA : ∀ q : Nat, s.heap.size ≤ q → ro_A s.heap.size q := fun q h => h
  have hS : va_S (ro_A s.heap.size) s.heap s.heap [] := va_S.rf
  have hl := lv_entry ([.ref h0, .int a1, .int a2]) (n := 6) (Nat.le_of_ble_eq_true rfl)
  rw [lg_entry_eq]
  generalize (lg_sl ([.ref h0, .int a1, .int a2]) ++ List.replicate (6 - (lg_sl ([.ref h0, .int a1, .int a2])).length) Slot.unset).toArray = ls at hl ⊢
  have hl : lv_has ls 6 [(0, .ref h0), (1, .int a1), (2, .int a2)] := hl
  refine lv_aload_n hx hb dX0_firstTouching_0 rfl (lv_at hl 0 rfl) ?_
  refine lv_iload_n hx hb dX0_firstTouching_1 rfl (lv_at hl 1 rfl) ?_
  refine ro_calli (va_runV (As := [.int a1]) (rest := []) ⟨hx, hb, hml, hown, hts⟩ (mtX0_leftOf l dC dI h0 q1 cA fw fh fs fc fl fe fi ft fo fa an af s.heap.size a1) (cwV 1 hts (gb_v kw_244 kw_246 kw_8 kw_22 kw_247) rfl rfl rfl (by decide +kernel) ⟨Nat.le_of_ble_eq_true rfl, Nat.le_of_ble_eq_true rfl⟩) ⟨ro_P.blind, va_recv hK hP (ci := 0) (q0 := 0) rfl rfl, ro_P.at hP hK⟩ rfl rfl hl.1 rfl (lv_room (Nat.le_of_ble_eq_true rfl)) dX0_firstTouching_2 ⟨Nat.le_of_ble_eq_true rfl, Nat.le_of_ble_eq_true rfl⟩) hP hS hA (fun H locs hP hS hz hk => ?_)
  refine lv_istore_n (lv' := [(3, .int (tb_left fs fc a1)), (0, .ref h0), (1, .int a1), (2, .int a2)]) hx hb dX0_firstTouching_5 rfl hl (by decide) rfl (fun ls hl => ?_)
  refine lv_aload_n hx hb dX0_firstTouching_6 rfl (lv_at hl 1 rfl) ?_
  refine lv_iload_n hx hb dX0_firstTouching_7 rfl (lv_at hl 2 rfl) ?_
  refine ro_calli (va_runV (As := [.int a1]) (rest := []) ⟨hx, hb, hml, hown, hts⟩ (mtX0_topOf l dC dI h0 q1 cA fw fh fs fc fl fe fi ft fo fa an af H.size a1) (cwV 1 hts (gb_v kw_248 kw_250 kw_9 kw_22 kw_251) rfl rfl rfl (by decide +kernel) ⟨Nat.le_of_ble_eq_true rfl, Nat.le_of_ble_eq_true rfl⟩) ⟨ro_P.blind, va_recv hK hP (ci := 0) (q0 := 0) rfl rfl, ro_P.at hP hK⟩ rfl rfl hl.1 rfl (lv_room (Nat.le_of_ble_eq_true rfl)) dX0_firstTouching_8 ⟨Nat.le_of_ble_eq_true rfl, Nat.le_of_ble_eq_true rfl⟩) hP hS hA (fun H locs hP hS hz hk => ?_)
  refine lv_istore (lv' := [(4, .int (tb_top fs fc a1)), (3, .int (tb_left fs fc a1)), (0, .ref h0), (1, .int a1), (2, .int a2)]) hx hb dX0_firstTouching_11 hl (by decide) rfl (fun ls hl => ?_)
  refine lv_iload_n hx hb dX0_firstTouching_13 rfl (lv_at hl 4 rfl) ?_
  refine lv_istore (lv' := [(5, .int a2), (4, .int (tb_top fs fc a1)), (3, .int (tb_left fs fc a1)), (0, .ref h0), (1, .int a1), (2, .int a2)]) hx hb dX0_firstTouching_14 hl (by decide) rfl (fun ls hl => ?_)
  rw [hj0] at hl
  refine loopW (pc := 16) (fun d H locs ls => ∃ (j : Nat), j + d = N ∧ tb_fst fs af (tb_left fs fc a1) (tb_top fs fc a1) d j = tb_fst fs af (tb_left fs fc a1) (tb_top fs fc a1) (N - j0) j0 ∧ va_P (dC, dI) vwCl [(h0, .inr (0, [.int fw, .int fh, .int fs, .int fc, .int fl, .int fe, .ref q1, .int fi, .int ft, .int fo, .int fa])), (q1, .inl (cA, an, .inl af))] H ∧ va_S (ro_A s.heap.size) s.heap H locs ∧ lv_has ls 6 [(5, .int (nI j)), (4, .int (tb_top fs fc a1)), (3, .int (tb_left fs fc a1)), (0, .ref h0), (1, .int a1), (2, .int (nI j0))]) (fun d H locs ls hI ih => ?_) (N - j0) ⟨j0, by omega, rfl, hP, hS, hl⟩
  obtain ⟨j, hjd, hy, hP, hS, hl⟩ := hI
  refine lv_iload hx hb dX0_firstTouching_16 (lv_at hl 0 rfl) ?_
  refine lv_aload_n hx hb dX0_firstTouching_18 rfl (lv_at hl 3 rfl) ?_
  refine va_get (D := (dC, dI)) (ci := 0) (v := .int fi) (C := "TileBins") (T := TX0) (N := 11) hx hb hts inX0 hown hK hP 0 rfl rfl 7 (by decide) (hts _ kw_60) (fun _ h9 => h9) rfl dX0_firstTouching_19 ?_
  refine lv_icmp_ge (tgt := 46) hx hb dX0_firstTouching_22 (by decide) (fun c_1 => ?_) (fun c_1 => ?_)
  · refine lv_iconst (v := (-1)) hx hb dX0_firstTouching_46 (by first | rfl | decide) ?_
    exact W.iret (v := (-1)) hx hb hr (fun t ht hW => ⟨⟨_, (), rfl, (by show _ = tb_find fs fc fi af a1 a2; unfold tb_find; rw [hN, hj0, nI_clamp (by omega), nI_clamp (by omega), ← hy]; have hjN := lm_end hN (by omega) (by omega) c_1; obtain rfl : d = 0 := (by omega); rw [tb_fst_0]), trivial⟩, hS.F ht⟩) hS.2.2 dX0_firstTouching_47
  · refine lv_aload_n hx hb dX0_firstTouching_25 rfl (lv_at hl 3 rfl) ?_
    refine lv_iload hx hb dX0_firstTouching_26 (lv_at hl 0 rfl) ?_
    refine lv_iload_n hx hb dX0_firstTouching_28 rfl (lv_at hl 2 rfl) ?_
    refine lv_iload hx hb dX0_firstTouching_29 (lv_at hl 1 rfl) ?_
    refine ro_calli (va_runV (As := [.int (nI j), .int (tb_left fs fc a1), .int (tb_top fs fc a1)]) (rest := []) ⟨hx, hb, hml, hown, hts⟩ (mtX0_touches l dC dI h0 q1 cA fw fh fs fc fl fe fi ft fo fa an af H.size (nI j) (tb_left fs fc a1) (tb_top fs fc a1) j rfl (by have := lm_go hN (by omega) (by omega) c_1; omega) han) (cwV 3 hts (gb_v kw_252 kw_254 kw_10 kw_22 kw_255) rfl rfl rfl (by decide +kernel) ⟨Nat.le_of_ble_eq_true rfl, Nat.le_of_ble_eq_true rfl⟩) ⟨ro_P.blind, va_recv hK hP (ci := 0) (q0 := 0) rfl rfl, ro_P.at hP hK⟩ rfl rfl hl.1 rfl (lv_room (Nat.le_of_ble_eq_true rfl)) dX0_firstTouching_31 ⟨Nat.le_of_ble_eq_true rfl, Nat.le_of_ble_eq_true rfl⟩) hP hS hA (fun H locs hP hS hz hk => ?_)
    refine lv_if_eq (tgt := 40) hx hb dX0_firstTouching_34 (by decide) (fun c_2 => ?_) (fun c_2 => ?_)
    · refine lv_iinc (v := (nI j) + 1) (lv' := [(5, .int ((nI j) + 1)), (4, .int (tb_top fs fc a1)), (3, .int (tb_left fs fc a1)), (0, .ref h0), (1, .int a1), (2, .int (nI j0))]) hx hb dX0_firstTouching_40 hl (k := 0) rfl (by rfl) (by decide) rfl (fun ls hl => ?_)
      refine lv_goto (tgt := 16) hx hb dX0_firstTouching_43 (by decide) ?_
      rw [nI_1] at hl
      have hlt := lm_go hN (by omega) (by omega) c_1
      obtain ⟨d, rfl⟩ : ∃ z, d = z + 1 := ⟨d - 1, by omega⟩
      refine ih d _ _ _ (by omega) ⟨j + 1, by omega, ?_, hP, hS, lv_sub hl [0, 1, 2, 3, 4, 5] rfl⟩
      rw [← hy, tb_fst_s, if_pos c_2]
    · refine lv_iload hx hb dX0_firstTouching_37 (lv_at hl 0 rfl) ?_
      exact W.iret (v := nI j) hx hb hr (fun t ht hW => ⟨⟨_, (), rfl, (by show _ = tb_find fs fc fi af a1 a2; unfold tb_find; rw [hN, hj0, nI_clamp (by omega), nI_clamp (by omega), ← hy]; have hlt := lm_go hN (by omega) (by omega) c_1; obtain ⟨d, rfl⟩ : ∃ z, d = z + 1 := ⟨d - 1, by omega⟩; rw [tb_fst_s, if_neg c_2]), trivial⟩, hS.F ht⟩) hS.2.2 dX0_firstTouching_39
end
section
set_option maxHeartbeats 4000000 in
set_option maxRecDepth 100000 in
theorem mtJ7_copyOf (l : Launch) (dC : Nat → ClassId) (dI : Nat → Nat → Nat) (q1 : Nat) (cA : ClassId) (an : Nat) (af : Nat → Int32) (sz : Nat) (a2 : Int32) (N : Nat) (hN : a2 = nI N) (hlt : an < N) (hmax : N ≤ 6144) : Met l yJ7_copyOf wsJ7_copyOf ({ frames := 1, cells := 1, slots := 6144, locals := 21 }) (va_Pc [.ref q1, .int a2] (mu_P (dC, dI) vwCl [(q1, .inl (cA, an, .inl af))] [(cA, .int)] sz)) (va_Qr (fun _ : Unit => True) (fun _ (a : Nat) t => ∃ cB : ClassId, va_P (dC, dI) vwCl [(q1, .inl (cA, an, .inl af)), (a, .inl (cB, N, .inl (va_cpy af (fun _ => 0) (0 : Int32).toNatClampNeg (0 : Int32).toNatClampNeg (nI an).toNatClampNeg)))] t.heap ∧ va_K (dC, dI) vwCl [(cA, .int), (cB, .int)] t ∧ va_D (va_A [(q1, .inl (cA, an, .inl af))] sz) [(q1, .inl (cA, an, .inl af)), (a, .inl (cB, N, .inl (va_cpy af (fun _ => 0) (0 : Int32).toNatClampNeg (0 : Int32).toNatClampNeg (nI an).toNatClampNeg)))]) (va_A [(q1, .inl (cA, an, .inl af))] sz)) 1 6144 (va_A [(q1, .inl (cA, an, .inl af))] sz) := by
  refine Met.ofW (cc := cJ7_copyOf) (maxL := 3) (ret := (some (.array .int))) (by decide) rfl ?_
  intro p e s m args below meth c s₁ B hml hv
  obtain ⟨rfl, hsz, hP, hK, hD0⟩ := hv
  have hx := B.exec
  have hb := B.bytes
  have hr := B.returns
  have hts : ∀ w ∈ gb, w.before _ s = true := fun w h => atoms_spec (ws := wsJ7_copyOf) B.pre w (List.mem_cons_of_mem _ h)
  have hown : s.vm.findClass "java/util/Arrays" = some m.cls := findClass_of_methodNamed B.named
  have hlocks := B.notSynchronized
  subst hsz
  have hD := hD0.self (sz := s.heap.size)
  generalize hAe : va_A [(q1, .inl (cA, an, .inl af))] s.heap.size = A at hD ⊢
  have hA : ∀ q : Nat, s.heap.size ≤ q → A q := fun q h => by rw [← hAe]; exact Or.inr h
  have hS : va_S A s.heap s.heap [] := va_S.rf
  have hP : va_P (dC, dI) vwCl [(q1, .inl (cA, an, .inl af))] s.heap := hP
  have hl := lv_entry ([.ref q1, .int a2]) (n := 3) (Nat.le_of_ble_eq_true rfl)
  rw [lg_entry_eq]
  generalize (lg_sl ([.ref q1, .int a2]) ++ List.replicate (3 - (lg_sl ([.ref q1, .int a2])).length) Slot.unset).toArray = ls at hl ⊢
  have hl : lv_has ls 3 [(0, .ref q1), (1, .int a2)] := hl
  refine lv_iload_n hx hb dJ7_copyOf_0 rfl (lv_at hl 1 rfl) ?_
  refine lv_aload_n hx hb dJ7_copyOf_1 rfl (lv_at hl 0 rfl) ?_
  refine va_alen hx hb hK hP 0 0 rfl rfl (v := nI an) rfl dJ7_copyOf_2 ?_
  refine lv_icmp_ne (tgt := 14) hx hb dJ7_copyOf_3 (by decide) (fun c_1 => ?_) (fun c_1 => absurd c_1 (by rw [hN, nI_eq (by omega) (by omega)]; omega))
  refine lv_iload_n hx hb dJ7_copyOf_14 rfl (lv_at hl 1 rfl) ?_
  refine va_newa (atype := .int) (ty := .int) (a0 := (N, .inl (fun _ => 0))) (N' := N) hx hb (hts _ kw_87) rfl hK hP hD hS hA (fun _ => rfl) (by rw [hN]; exact nI_pos (by omega)) (by rw [hN]; exact nI_clamp (by omega)) (by show N * 4 ≤ 536870912; omega) (Nat.le_of_ble_eq_true rfl) (by show 0 + N ≤ 6144; omega) dJ7_copyOf_15 (fun q cB H hK hP hD hS => ?_)
  have hK : va_K (dC, dI) vwCl [(cA, .int), (cB, .int)] s := hK
  have hP : va_P (dC, dI) vwCl [(q1, .inl (cA, an, .inl af)), (q, .inl (cB, N, .inl (fun _ => 0)))] H := hP
  have hD : va_D A [(q1, .inl (cA, an, .inl af)), (q, .inl (cB, N, .inl (fun _ => 0)))] := hD
  refine W.widen (k := 1) (n := 6144) (Nat.le_refl _) (by omega) ?_
  refine lv_astore_n (lv' := [(2, .ref q), (0, .ref q1), (1, .int a2)]) hx hb dJ7_copyOf_17 rfl hl (by decide) rfl (fun ls hl => ?_)
  refine lv_aload_n hx hb dJ7_copyOf_18 rfl (lv_at hl 1 rfl) ?_
  refine lv_iconst (v := 0) hx hb dJ7_copyOf_19 (by decide) ?_
  refine lv_aload_n hx hb dJ7_copyOf_20 rfl (lv_at hl 0 rfl) ?_
  refine lv_iconst (v := 0) hx hb dJ7_copyOf_21 (by decide) ?_
  refine lv_aload_n hx hb dJ7_copyOf_22 rfl (lv_at hl 1 rfl) ?_
  refine va_alen hx hb hK hP 0 0 rfl rfl (v := nI an) rfl dJ7_copyOf_23 ?_
  refine lv_iload_n hx hb dJ7_copyOf_24 rfl (lv_at hl 2 rfl) ?_
  refine va_mmin hx hb (hml.trans hl.1.symm) hown (hts _ kw_224) (hts _ kw_192) (hts _ kw_28) (hts _ kw_mmin) (Nat.le_of_ble_eq_true rfl) (Nat.le_of_ble_eq_true rfl) (Nat.le_of_ble_eq_true rfl) (Nat.le_of_ble_eq_true rfl) dJ7_copyOf_25 ?_
  rw [if_neg (show ¬ a2 < nI an by rw [hN, nI_ltI (by omega) (by omega)]; omega)]
  refine va_copyi hx hb (hml.trans hl.1.symm) hown (hts _ kw_225) (hts _ kw_227) (hts _ kw_226) (hts _ kw_31) hK hP hD hS 0 1 0 1 rfl rfl rfl rfl rfl (by decide) (by decide) (nI_pos (by omega)) (by rw [nI_clamp (by omega)]; show 0 + an ≤ an; omega) (by rw [nI_clamp (by omega)]; show 0 + an ≤ N; omega) (fun _ _ => rfl) (Nat.le_of_ble_eq_true rfl) (Nat.le_of_ble_eq_true rfl) dJ7_copyOf_28 (fun H locs hP hD hS => ?_)
  have hP : va_P (dC, dI) vwCl [(q1, .inl (cA, an, .inl af)), (q, .inl (cB, N, .inl (va_cpy af (fun _ => 0) (0 : Int32).toNatClampNeg (0 : Int32).toNatClampNeg (nI an).toNatClampNeg)))] H := hP
  have hD : va_D A [(q1, .inl (cA, an, .inl af)), (q, .inl (cB, N, .inl (va_cpy af (fun _ => 0) (0 : Int32).toNatClampNeg (0 : Int32).toNatClampNeg (nI an).toNatClampNeg)))] := hD
  refine lv_aload_n hx hb dJ7_copyOf_31 rfl (lv_at hl 0 rfl) ?_
  exact W.aret (v := .ref q) hx hb hr (Or.inr ⟨_, rfl⟩) (Or.inr ⟨_, rfl⟩) (fun t ht hW => ⟨⟨(), q, rfl, trivial, cB, by rw [ht]; exact hP, va_K.moved hW.alike hK, hD⟩, hS.F ht⟩) hS.2.2 dJ7_copyOf_32
def tb_taken0 (fw fh fs fc fl fe : Int32) (an : Nat) (af : Nat → Int32) : TBA := (fw, fh, fs, fc, fl, fe, 0, 0, (-1), 0, an, af)
set_option maxHeartbeats 4000000 in
set_option maxRecDepth 100000 in
theorem mtX0_takeAllOut (l : Launch) (dC : Nat → ClassId) (dI : Nat → Nat → Nat) (h0 q1 : Nat) (cA : ClassId) (fw fh fs fc fl fe fi ft fo fa : Int32) (an : Nat) (af : Nat → Int32) (sz : Nat) : Met l yX0_takeAllOut wsX0_takeAllOut ({ frames := 0, cells := 0, slots := 0, locals := 0 }) (va_Pc [.ref h0] (mu_P (dC, dI) vwCl [(h0, .inr (0, [.int fw, .int fh, .int fs, .int fc, .int fl, .int fe, .ref q1, .int fi, .int ft, .int fo, .int fa])), (q1, .inl (cA, an, .inl af))] [(cA, .int)] sz)) (va_Qv (fun u : TBA => u = tb_taken0 fw fh fs fc fl fe an af) (tbAt (dC, dI) (va_A [(h0, .inr (0, [.int fw, .int fh, .int fs, .int fc, .int fl, .int fe, .ref q1, .int fi, .int ft, .int fo, .int fa])), (q1, .inl (cA, an, .inl af))] sz) h0) (va_A [(h0, .inr (0, [.int fw, .int fh, .int fs, .int fc, .int fl, .int fe, .ref q1, .int fi, .int ft, .int fo, .int fa])), (q1, .inl (cA, an, .inl af))] sz)) 0 0 (va_A [(h0, .inr (0, [.int fw, .int fh, .int fs, .int fc, .int fl, .int fe, .ref q1, .int fi, .int ft, .int fo, .int fa])), (q1, .inl (cA, an, .inl af))] sz) := by
  refine Met.ofW (cc := cX0_takeAllOut) (maxL := 1) (ret := none) (by decide) rfl ?_
  intro p e s m args below meth c s₁ B hml hv
  obtain ⟨rfl, hsz, hP, hK, hD0⟩ := hv
  have hx := B.exec
  have hb := B.bytes
  have hr := B.returns
  have hts : ∀ w ∈ gb, w.before _ s = true := fun w h => atoms_spec (ws := wsX0_takeAllOut) B.pre w (List.mem_cons_of_mem _ h)
  have hown : s.vm.findClass "TileBins" = some m.cls := findClass_of_methodNamed B.named
  have hlocks := B.notSynchronized
  subst hsz
  have hD := hD0.self (sz := s.heap.size)
  generalize hAe : va_A [(h0, .inr (0, [.int fw, .int fh, .int fs, .int fc, .int fl, .int fe, .ref q1, .int fi, .int ft, .int fo, .int fa])), (q1, .inl (cA, an, .inl af))] s.heap.size = A at hD ⊢
  have hA : ∀ q : Nat, s.heap.size ≤ q → A q := fun q h => by rw [← hAe]; exact Or.inr h
  have hS : va_S A s.heap s.heap [] := va_S.rf
  have hP : va_P (dC, dI) vwCl [(h0, .inr (0, [.int fw, .int fh, .int fs, .int fc, .int fl, .int fe, .ref q1, .int fi, .int ft, .int fo, .int fa])), (q1, .inl (cA, an, .inl af))] s.heap := hP
  have hl := lv_entry ([.ref h0]) (n := 1) (Nat.le_of_ble_eq_true rfl)
  rw [lg_entry_eq]
  generalize (lg_sl ([.ref h0]) ++ List.replicate (1 - (lg_sl ([.ref h0])).length) Slot.unset).toArray = ls at hl ⊢
  have hl : lv_has ls 1 [(0, .ref h0)] := hl
  refine lv_aload_n hx hb dX0_takeAllOut_0 rfl (lv_at hl 0 rfl) ?_
  refine lv_iconst (v := 0) hx hb dX0_takeAllOut_1 (by first | rfl | decide) ?_
  refine va_put (D := (dC, dI)) (ci := 0) (v := .int 0) (ty := .int) (C := "TileBins") (T := TX0) (N := 11) hx hb hts inX0 tyX0 tyX0_ok nmX0 hown hK hP hD hS 0 rfl rfl 7 (by decide) (hts _ kw_60) (fun _ h9 => h9) rfl (by decide +kernel) rfl rfl (Nat.le_of_ble_eq_true rfl) dX0_takeAllOut_2 (fun H locs hP hD hS => ?_)
  have hP : va_P (dC, dI) vwCl [(h0, .inr (0, [.int fw, .int fh, .int fs, .int fc, .int fl, .int fe, .ref q1, .int 0, .int ft, .int fo, .int fa])), (q1, .inl (cA, an, .inl af))] H := hP
  have hD : va_D A [(h0, .inr (0, [.int fw, .int fh, .int fs, .int fc, .int fl, .int fe, .ref q1, .int 0, .int ft, .int fo, .int fa])), (q1, .inl (cA, an, .inl af))] := hD
  refine lv_aload_n hx hb dX0_takeAllOut_5 rfl (lv_at hl 0 rfl) ?_
  refine lv_iconst (v := 0) hx hb dX0_takeAllOut_6 (by first | rfl | decide) ?_
  refine va_put (D := (dC, dI)) (ci := 0) (v := .int 0) (ty := .int) (C := "TileBins") (T := TX0) (N := 11) hx hb hts inX0 tyX0 tyX0_ok nmX0 hown hK hP hD hS 0 rfl rfl 8 (by decide) (hts _ kw_61) (fun _ h9 => h9) rfl (by decide +kernel) rfl rfl (Nat.le_of_ble_eq_true rfl) dX0_takeAllOut_7 (fun H locs hP hD hS => ?_)
  have hP : va_P (dC, dI) vwCl [(h0, .inr (0, [.int fw, .int fh, .int fs, .int fc, .int fl, .int fe, .ref q1, .int 0, .int 0, .int fo, .int fa])), (q1, .inl (cA, an, .inl af))] H := hP
  have hD : va_D A [(h0, .inr (0, [.int fw, .int fh, .int fs, .int fc, .int fl, .int fe, .ref q1, .int 0, .int 0, .int fo, .int fa])), (q1, .inl (cA, an, .inl af))] := hD
  refine lv_aload_n hx hb dX0_takeAllOut_10 rfl (lv_at hl 0 rfl) ?_
  refine lv_iconst (v := (-1)) hx hb dX0_takeAllOut_11 (by first | rfl | decide) ?_
  refine va_put (D := (dC, dI)) (ci := 0) (v := .int (-1)) (ty := .int) (C := "TileBins") (T := TX0) (N := 11) hx hb hts inX0 tyX0 tyX0_ok nmX0 hown hK hP hD hS 0 rfl rfl 9 (by decide) (hts _ kw_62) (fun _ h9 => h9) rfl (by decide +kernel) rfl rfl (Nat.le_of_ble_eq_true rfl) dX0_takeAllOut_12 (fun H locs hP hD hS => ?_)
  have hP : va_P (dC, dI) vwCl [(h0, .inr (0, [.int fw, .int fh, .int fs, .int fc, .int fl, .int fe, .ref q1, .int 0, .int 0, .int (-1), .int fa])), (q1, .inl (cA, an, .inl af))] H := hP
  have hD : va_D A [(h0, .inr (0, [.int fw, .int fh, .int fs, .int fc, .int fl, .int fe, .ref q1, .int 0, .int 0, .int (-1), .int fa])), (q1, .inl (cA, an, .inl af))] := hD
  refine lv_aload_n hx hb dX0_takeAllOut_15 rfl (lv_at hl 0 rfl) ?_
  refine lv_iconst (v := 0) hx hb dX0_takeAllOut_16 (by first | rfl | decide) ?_
  refine va_put (D := (dC, dI)) (ci := 0) (v := .int 0) (ty := .int) (C := "TileBins") (T := TX0) (N := 11) hx hb hts inX0 tyX0 tyX0_ok nmX0 hown hK hP hD hS 0 rfl rfl 10 (by decide) (hts _ kw_63) (fun _ h9 => h9) rfl (by decide +kernel) rfl rfl (Nat.le_of_ble_eq_true rfl) dX0_takeAllOut_17 (fun H locs hP hD hS => ?_)
  have hP : va_P (dC, dI) vwCl [(h0, .inr (0, [.int fw, .int fh, .int fs, .int fc, .int fl, .int fe, .ref q1, .int 0, .int 0, .int (-1), .int 0])), (q1, .inl (cA, an, .inl af))] H := hP
  have hD : va_D A [(h0, .inr (0, [.int fw, .int fh, .int fs, .int fc, .int fl, .int fe, .ref q1, .int 0, .int 0, .int (-1), .int 0])), (q1, .inl (cA, an, .inl af))] := hD
  exact W.vret hx hb hr (fun t ht hW => ⟨⟨(fw, fh, fs, fc, fl, fe, 0, 0, (-1), 0, an, af), rfl, rfl, q1, cA, by rw [ht]; exact hP, va_K.moved hW.alike hK, hD⟩, hS.F ht⟩) hS.2.2 dX0_takeAllOut_20
def tb_lay (an : Nat) (af : Nat → Int32) (a1 a2 a3 a4 : Int32) : TBA := (a1, a2, a3, (tb_across a3 0 a1), (tb_across a3 0 a2), a4, 0, 0, (-1), 0, an, af)
set_option maxHeartbeats 4000000 in
set_option maxRecDepth 100000 in
theorem mtX0_layOut (l : Launch) (dC : Nat → ClassId) (dI : Nat → Nat → Nat) (h0 q1 : Nat) (cA : ClassId) (fw fh fs fc fl fe fi ft fo fa : Int32) (an : Nat) (af : Nat → Int32) (sz : Nat) (a1 a2 a3 a4 : Int32) : Met l yX0_layOut wsX0_layOut ({ frames := 1, cells := 0, slots := 0, locals := 22 }) (va_Pc [.ref h0, .int a1, .int a2, .int a3, .int a4] (mu_P (dC, dI) vwCl [(h0, .inr (0, [.int fw, .int fh, .int fs, .int fc, .int fl, .int fe, .ref q1, .int fi, .int ft, .int fo, .int fa])), (q1, .inl (cA, an, .inl af))] [(cA, .int)] sz)) (va_Qv (fun u : TBA => u = tb_lay an af a1 a2 a3 a4) (tbAt (dC, dI) (va_A [(h0, .inr (0, [.int fw, .int fh, .int fs, .int fc, .int fl, .int fe, .ref q1, .int fi, .int ft, .int fo, .int fa])), (q1, .inl (cA, an, .inl af))] sz) h0) (va_A [(h0, .inr (0, [.int fw, .int fh, .int fs, .int fc, .int fl, .int fe, .ref q1, .int fi, .int ft, .int fo, .int fa])), (q1, .inl (cA, an, .inl af))] sz)) 0 0 (va_A [(h0, .inr (0, [.int fw, .int fh, .int fs, .int fc, .int fl, .int fe, .ref q1, .int fi, .int ft, .int fo, .int fa])), (q1, .inl (cA, an, .inl af))] sz) := by
  refine Met.ofW (cc := cX0_layOut) (maxL := 5) (ret := none) (by decide) rfl ?_
  intro p e s m args below meth c s₁ B hml hv
  obtain ⟨rfl, hsz, hP, hK, hD0⟩ := hv
  have hx := B.exec
  have hb := B.bytes
  have hr := B.returns
  have hts : ∀ w ∈ gb, w.before _ s = true := fun w h => atoms_spec (ws := wsX0_layOut) B.pre w (List.mem_cons_of_mem _ h)
  have hown : s.vm.findClass "TileBins" = some m.cls := findClass_of_methodNamed B.named
  have hlocks := B.notSynchronized
  subst hsz
  have hD := hD0.self (sz := s.heap.size)
  generalize hAe : va_A [(h0, .inr (0, [.int fw, .int fh, .int fs, .int fc, .int fl, .int fe, .ref q1, .int fi, .int ft, .int fo, .int fa])), (q1, .inl (cA, an, .inl af))] s.heap.size = A at hD ⊢
  have hA : ∀ q : Nat, s.heap.size ≤ q → A q := fun q h => by rw [← hAe]; exact Or.inr h
  have hS : va_S A s.heap s.heap [] := va_S.rf
  have hP : va_P (dC, dI) vwCl [(h0, .inr (0, [.int fw, .int fh, .int fs, .int fc, .int fl, .int fe, .ref q1, .int fi, .int ft, .int fo, .int fa])), (q1, .inl (cA, an, .inl af))] s.heap := hP
  have hl := lv_entry ([.ref h0, .int a1, .int a2, .int a3, .int a4]) (n := 5) (Nat.le_of_ble_eq_true rfl)
  rw [lg_entry_eq]
  generalize (lg_sl ([.ref h0, .int a1, .int a2, .int a3, .int a4]) ++ List.replicate (5 - (lg_sl ([.ref h0, .int a1, .int a2, .int a3, .int a4])).length) Slot.unset).toArray = ls at hl ⊢
  have hl : lv_has ls 5 [(0, .ref h0), (1, .int a1), (2, .int a2), (3, .int a3), (4, .int a4)] := hl
  refine lv_aload_n hx hb dX0_layOut_0 rfl (lv_at hl 0 rfl) ?_
  refine lv_iload_n hx hb dX0_layOut_1 rfl (lv_at hl 1 rfl) ?_
  refine va_put (D := (dC, dI)) (ci := 0) (v := .int a1) (ty := .int) (C := "TileBins") (T := TX0) (N := 11) hx hb hts inX0 tyX0 tyX0_ok nmX0 hown hK hP hD hS 0 rfl rfl 0 (by decide) (hts _ kw_53) (fun _ h9 => h9) rfl (by decide +kernel) rfl rfl (Nat.le_of_ble_eq_true rfl) dX0_layOut_2 (fun H locs hP hD hS => ?_)
  have hP : va_P (dC, dI) vwCl [(h0, .inr (0, [.int a1, .int fh, .int fs, .int fc, .int fl, .int fe, .ref q1, .int fi, .int ft, .int fo, .int fa])), (q1, .inl (cA, an, .inl af))] H := hP
  have hD : va_D A [(h0, .inr (0, [.int a1, .int fh, .int fs, .int fc, .int fl, .int fe, .ref q1, .int fi, .int ft, .int fo, .int fa])), (q1, .inl (cA, an, .inl af))] := hD
  refine lv_aload_n hx hb dX0_layOut_5 rfl (lv_at hl 0 rfl) ?_
  refine lv_iload_n hx hb dX0_layOut_6 rfl (lv_at hl 2 rfl) ?_
  refine va_put (D := (dC, dI)) (ci := 0) (v := .int a2) (ty := .int) (C := "TileBins") (T := TX0) (N := 11) hx hb hts inX0 tyX0 tyX0_ok nmX0 hown hK hP hD hS 0 rfl rfl 1 (by decide) (hts _ kw_54) (fun _ h9 => h9) rfl (by decide +kernel) rfl rfl (Nat.le_of_ble_eq_true rfl) dX0_layOut_7 (fun H locs hP hD hS => ?_)
  have hP : va_P (dC, dI) vwCl [(h0, .inr (0, [.int a1, .int a2, .int fs, .int fc, .int fl, .int fe, .ref q1, .int fi, .int ft, .int fo, .int fa])), (q1, .inl (cA, an, .inl af))] H := hP
  have hD : va_D A [(h0, .inr (0, [.int a1, .int a2, .int fs, .int fc, .int fl, .int fe, .ref q1, .int fi, .int ft, .int fo, .int fa])), (q1, .inl (cA, an, .inl af))] := hD
  refine lv_aload_n hx hb dX0_layOut_10 rfl (lv_at hl 0 rfl) ?_
  refine lv_iload_n hx hb dX0_layOut_11 rfl (lv_at hl 3 rfl) ?_
  refine va_put (D := (dC, dI)) (ci := 0) (v := .int a3) (ty := .int) (C := "TileBins") (T := TX0) (N := 11) hx hb hts inX0 tyX0 tyX0_ok nmX0 hown hK hP hD hS 0 rfl rfl 2 (by decide) (hts _ kw_55) (fun _ h9 => h9) rfl (by decide +kernel) rfl rfl (Nat.le_of_ble_eq_true rfl) dX0_layOut_12 (fun H locs hP hD hS => ?_)
  have hP : va_P (dC, dI) vwCl [(h0, .inr (0, [.int a1, .int a2, .int a3, .int fc, .int fl, .int fe, .ref q1, .int fi, .int ft, .int fo, .int fa])), (q1, .inl (cA, an, .inl af))] H := hP
  have hD : va_D A [(h0, .inr (0, [.int a1, .int a2, .int a3, .int fc, .int fl, .int fe, .ref q1, .int fi, .int ft, .int fo, .int fa])), (q1, .inl (cA, an, .inl af))] := hD
  refine lv_aload_n hx hb dX0_layOut_15 rfl (lv_at hl 0 rfl) ?_
  refine lv_aload_n hx hb dX0_layOut_16 rfl (lv_at hl 0 rfl) ?_
  refine lv_iconst (v := 0) hx hb dX0_layOut_17 (by first | rfl | decide) ?_
  refine lv_iload_n hx hb dX0_layOut_18 rfl (lv_at hl 1 rfl) ?_
  refine ro_calli (va_runV (As := [.int 0, .int a1]) (rest := [.ref h0]) ⟨hx, hb, hml, hown, hts⟩ (mtX0_tilesAcross l dC dI h0 q1 cA a1 a2 a3 fc fl fe fi ft fo fa an af H.size 0 a1) (cwV 2 hts (gb_v kw_45 kw_47 kw_1 kw_22 kw_48) rfl rfl rfl (by decide +kernel) ⟨Nat.le_of_ble_eq_true rfl, Nat.le_of_ble_eq_true rfl⟩) ⟨ro_P.blind, va_recv hK hP (ci := 0) (q0 := 0) rfl rfl, ro_P.at hP hK⟩ rfl rfl hl.1 rfl (lv_room (Nat.le_of_ble_eq_true rfl)) dX0_layOut_19 ⟨Nat.le_of_ble_eq_true rfl, Nat.le_of_ble_eq_true rfl⟩) hP hS hA (fun H locs hP hS hz hk => ?_)
  refine va_put (D := (dC, dI)) (ci := 0) (v := .int (tb_across a3 0 a1)) (ty := .int) (C := "TileBins") (T := TX0) (N := 11) hx hb hts inX0 tyX0 tyX0_ok nmX0 hown hK hP hD hS 0 rfl rfl 3 (by decide) (hts _ kw_56) (fun _ h9 => h9) rfl (by decide +kernel) rfl rfl (Nat.le_of_ble_eq_true rfl) dX0_layOut_22 (fun H locs hP hD hS => ?_)
  have hP : va_P (dC, dI) vwCl [(h0, .inr (0, [.int a1, .int a2, .int a3, .int (tb_across a3 0 a1), .int fl, .int fe, .ref q1, .int fi, .int ft, .int fo, .int fa])), (q1, .inl (cA, an, .inl af))] H := hP
  have hD : va_D A [(h0, .inr (0, [.int a1, .int a2, .int a3, .int (tb_across a3 0 a1), .int fl, .int fe, .ref q1, .int fi, .int ft, .int fo, .int fa])), (q1, .inl (cA, an, .inl af))] := hD
  refine lv_aload_n hx hb dX0_layOut_25 rfl (lv_at hl 0 rfl) ?_
  refine lv_aload_n hx hb dX0_layOut_26 rfl (lv_at hl 0 rfl) ?_
  refine lv_iconst (v := 0) hx hb dX0_layOut_27 (by first | rfl | decide) ?_
  refine lv_iload_n hx hb dX0_layOut_28 rfl (lv_at hl 2 rfl) ?_
  refine ro_calli (va_runV (As := [.int 0, .int a2]) (rest := [.ref h0]) ⟨hx, hb, hml, hown, hts⟩ (mtX0_tilesAcross l dC dI h0 q1 cA a1 a2 a3 (tb_across a3 0 a1) fl fe fi ft fo fa an af H.size 0 a2) (cwV 2 hts (gb_v kw_45 kw_47 kw_1 kw_22 kw_48) rfl rfl rfl (by decide +kernel) ⟨Nat.le_of_ble_eq_true rfl, Nat.le_of_ble_eq_true rfl⟩) ⟨ro_P.blind, va_recv hK hP (ci := 0) (q0 := 0) rfl rfl, ro_P.at hP hK⟩ rfl rfl hl.1 rfl (lv_room (Nat.le_of_ble_eq_true rfl)) dX0_layOut_29 ⟨Nat.le_of_ble_eq_true rfl, Nat.le_of_ble_eq_true rfl⟩) hP hS hA (fun H locs hP hS hz hk => ?_)
  refine va_put (D := (dC, dI)) (ci := 0) (v := .int (tb_across a3 0 a2)) (ty := .int) (C := "TileBins") (T := TX0) (N := 11) hx hb hts inX0 tyX0 tyX0_ok nmX0 hown hK hP hD hS 0 rfl rfl 4 (by decide) (hts _ kw_57) (fun _ h9 => h9) rfl (by decide +kernel) rfl rfl (Nat.le_of_ble_eq_true rfl) dX0_layOut_32 (fun H locs hP hD hS => ?_)
  have hP : va_P (dC, dI) vwCl [(h0, .inr (0, [.int a1, .int a2, .int a3, .int (tb_across a3 0 a1), .int (tb_across a3 0 a2), .int fe, .ref q1, .int fi, .int ft, .int fo, .int fa])), (q1, .inl (cA, an, .inl af))] H := hP
  have hD : va_D A [(h0, .inr (0, [.int a1, .int a2, .int a3, .int (tb_across a3 0 a1), .int (tb_across a3 0 a2), .int fe, .ref q1, .int fi, .int ft, .int fo, .int fa])), (q1, .inl (cA, an, .inl af))] := hD
  refine lv_aload_n hx hb dX0_layOut_35 rfl (lv_at hl 0 rfl) ?_
  refine lv_iload hx hb dX0_layOut_36 (lv_at hl 4 rfl) ?_
  refine va_put (D := (dC, dI)) (ci := 0) (v := .int a4) (ty := .int) (C := "TileBins") (T := TX0) (N := 11) hx hb hts inX0 tyX0 tyX0_ok nmX0 hown hK hP hD hS 0 rfl rfl 5 (by decide) (hts _ kw_58) (fun _ h9 => h9) rfl (by decide +kernel) rfl rfl (Nat.le_of_ble_eq_true rfl) dX0_layOut_38 (fun H locs hP hD hS => ?_)
  have hP : va_P (dC, dI) vwCl [(h0, .inr (0, [.int a1, .int a2, .int a3, .int (tb_across a3 0 a1), .int (tb_across a3 0 a2), .int a4, .ref q1, .int fi, .int ft, .int fo, .int fa])), (q1, .inl (cA, an, .inl af))] H := hP
  have hD : va_D A [(h0, .inr (0, [.int a1, .int a2, .int a3, .int (tb_across a3 0 a1), .int (tb_across a3 0 a2), .int a4, .ref q1, .int fi, .int ft, .int fo, .int fa])), (q1, .inl (cA, an, .inl af))] := hD
  refine lv_aload_n hx hb dX0_layOut_41 rfl (lv_at hl 0 rfl) ?_
  have hPc := hP.sub (ws' := [(h0, .inr (0, [.int a1, .int a2, .int a3, .int (tb_across a3 0 a1), .int (tb_across a3 0 a2), .int a4, .ref q1, .int fi, .int ft, .int fo, .int fa])), (q1, .inl (cA, an, .inl af))]) [0, 1] rfl
  have hDc := hD.sub (ws' := [(h0, .inr (0, [.int a1, .int a2, .int a3, .int (tb_across a3 0 a1), .int (tb_across a3 0 a2), .int a4, .ref q1, .int fi, .int ft, .int fo, .int fa])), (q1, .inl (cA, an, .inl af))]) [0, 1] (by decide) rfl
  have hKc := hK.sub (tys' := [(cA, .int)]) [0] rfl
  have hFc := va_free (wc := [(h0, .inr (0, [.int a1, .int a2, .int a3, .int (tb_across a3 0 a1), .int (tb_across a3 0 a2), .int a4, .ref q1, .int fi, .int ft, .int fo, .int fa])), (q1, .inl (cA, an, .inl af))]) hD hS hA [0, 1] rfl
  refine va_callv (va_runV (As := []) (rest := []) ⟨hx, hb, hml, hown, hts⟩ (mtX0_takeAllOut l dC dI h0 q1 cA a1 a2 a3 (tb_across a3 0 a1) (tb_across a3 0 a2) a4 fi ft fo fa an af H.size ) (cwV 0 hts (gb_v kw_49 kw_51 kw_2 kw_22 kw_52) rfl rfl rfl (by decide +kernel) ⟨Nat.le_of_ble_eq_true rfl, Nat.le_of_ble_eq_true rfl⟩) ⟨mu_P.blind, va_recv hKc hPc (ci := 0) (q0 := 0) rfl rfl, mu_P.at hPc hKc hDc⟩ rfl rfl hl.1 rfl (lv_room (Nat.le_of_ble_eq_true rfl)) dX0_layOut_42 ⟨Nat.le_of_ble_eq_true rfl, Nat.le_of_ble_eq_true rfl⟩) hS (fun q _ h => hFc q h) hFc (fun u t H1 locs ht hvm hw hB hz1 hk1 hS => ?_)
  have hw : u = tb_taken0 a1 a2 a3 (tb_across a3 0 a1) (tb_across a3 0 a2) a4 an af := hw
  subst hw
  obtain ⟨q1_1, cA_2, hP1, hK1, hD1⟩ := hB
  rw [ht] at hP1
  have hK1 := va_K.moved hvm.symm hK1
  obtain ⟨hP, hD⟩ := va_join (wr := []) (w1 := [(h0, .inr (0, [.int a1, .int a2, .int a3, .int (tb_across a3 0 a1), .int (tb_across a3 0 a2), .int a4, .ref q1_1, .int 0, .int 0, .int (-1), .int 0])), (q1_1, .inl (cA_2, an, .inl af))]) hP hD [0, 1] [] rfl rfl (by decide) (by decide) hk1 hFc hP1 hD1
  have hK := (hK.sub (tys' := []) [] rfl).app hK1
  generalize H1 = H at hP hS ⊢
  have hP : va_P (dC, dI) vwCl [(h0, .inr (0, [.int a1, .int a2, .int a3, .int (tb_across a3 0 a1), .int (tb_across a3 0 a2), .int a4, .ref q1_1, .int 0, .int 0, .int (-1), .int 0])), (q1_1, .inl (cA_2, an, .inl af))] H := hP
  have hD : va_D A [(h0, .inr (0, [.int a1, .int a2, .int a3, .int (tb_across a3 0 a1), .int (tb_across a3 0 a2), .int a4, .ref q1_1, .int 0, .int 0, .int (-1), .int 0])), (q1_1, .inl (cA_2, an, .inl af))] := hD
  have hK : va_K (dC, dI) vwCl [(cA_2, .int)] s := hK
  exact W.vret hx hb hr (fun t ht hW => ⟨⟨(a1, a2, a3, (tb_across a3 0 a1), (tb_across a3 0 a2), a4, 0, 0, (-1), 0, an, af), rfl, rfl, q1_1, cA_2, by rw [ht]; exact hP, va_K.moved hW.alike hK, hD⟩, hS.F ht⟩) hS.2.2 dX0_layOut_45
def tb_rn (fi : Int32) (an : Nat) : Nat := if ((fi + 1) * 6) ≤ nI an then an else 2 * an
def tb_rf (fi : Int32) (an : Nat) (af : Nat → Int32) : Nat → Int32 := if ((fi + 1) * 6) ≤ nI an then af else va_cpy af (fun _ => 0) (0 : Int32).toNatClampNeg (0 : Int32).toNatClampNeg (nI an).toNatClampNeg
def tb_room (fw fh fs fc fl fe fi ft fo fa : Int32) (an : Nat) (af : Nat → Int32) : TBA := (fw, fh, fs, fc, fl, fe, fi, ft, fo, fa, tb_rn fi an, tb_rf fi an af)
theorem lm_2 (an : Nat) : 2 * nI an = nI (2 * an) := by
  rw [show (2 : Int32) = nI 2 by decide, pk_mul]
set_option maxHeartbeats 4000000 in
set_option maxRecDepth 100000 in
theorem mtX0_makeRoom (l : Launch) (dC : Nat → ClassId) (dI : Nat → Nat → Nat) (h0 q1 : Nat) (cA : ClassId) (fw fh fs fc fl fe fi ft fo fa : Int32) (an : Nat) (af : Nat → Int32) (sz : Nat) (han0 : 0 < an) (hcp : ¬ ((fi + 1) * 6) ≤ nI an → 2 * an ≤ 6144) : Met l yX0_makeRoom wsX0_makeRoom ({ frames := 2, cells := 1, slots := 6144, locals := 43 }) (va_Pc [.ref h0] (mu_P (dC, dI) vwCl [(h0, .inr (0, [.int fw, .int fh, .int fs, .int fc, .int fl, .int fe, .ref q1, .int fi, .int ft, .int fo, .int fa])), (q1, .inl (cA, an, .inl af))] [(cA, .int)] sz)) (va_Qv (fun u : TBA => u = tb_room fw fh fs fc fl fe fi ft fo fa an af) (tbAt (dC, dI) (va_A [(h0, .inr (0, [.int fw, .int fh, .int fs, .int fc, .int fl, .int fe, .ref q1, .int fi, .int ft, .int fo, .int fa])), (q1, .inl (cA, an, .inl af))] sz) h0) (va_A [(h0, .inr (0, [.int fw, .int fh, .int fs, .int fc, .int fl, .int fe, .ref q1, .int fi, .int ft, .int fo, .int fa])), (q1, .inl (cA, an, .inl af))] sz)) 1 6144 (va_A [(h0, .inr (0, [.int fw, .int fh, .int fs, .int fc, .int fl, .int fe, .ref q1, .int fi, .int ft, .int fo, .int fa])), (q1, .inl (cA, an, .inl af))] sz) := by
  refine Met.ofW (cc := cX0_makeRoom) (maxL := 1) (ret := none) (by decide) rfl ?_
  intro p e s m args below meth c s₁ B hml hv
  obtain ⟨rfl, hsz, hP, hK, hD0⟩ := hv
  have hx := B.exec
  have hb := B.bytes
  have hr := B.returns
  have hts : ∀ w ∈ gb, w.before _ s = true := fun w h => atoms_spec (ws := wsX0_makeRoom) B.pre w (List.mem_cons_of_mem _ h)
  have hown : s.vm.findClass "TileBins" = some m.cls := findClass_of_methodNamed B.named
  have hlocks := B.notSynchronized
  subst hsz
  have hD := hD0.self (sz := s.heap.size)
  generalize hAe : va_A [(h0, .inr (0, [.int fw, .int fh, .int fs, .int fc, .int fl, .int fe, .ref q1, .int fi, .int ft, .int fo, .int fa])), (q1, .inl (cA, an, .inl af))] s.heap.size = A at hD ⊢
  have hA : ∀ q : Nat, s.heap.size ≤ q → A q := fun q h => by rw [← hAe]; exact Or.inr h
  have hS : va_S A s.heap s.heap [] := va_S.rf
  have hP : va_P (dC, dI) vwCl [(h0, .inr (0, [.int fw, .int fh, .int fs, .int fc, .int fl, .int fe, .ref q1, .int fi, .int ft, .int fo, .int fa])), (q1, .inl (cA, an, .inl af))] s.heap := hP
  have hl := lv_entry ([.ref h0]) (n := 1) (Nat.le_of_ble_eq_true rfl)
  rw [lg_entry_eq]
  generalize (lg_sl ([.ref h0]) ++ List.replicate (1 - (lg_sl ([.ref h0])).length) Slot.unset).toArray = ls at hl ⊢
  have hl : lv_has ls 1 [(0, .ref h0)] := hl
  refine lv_aload_n hx hb dX0_makeRoom_0 rfl (lv_at hl 0 rfl) ?_
  refine va_get (D := (dC, dI)) (ci := 0) (v := .int fi) (C := "TileBins") (T := TX0) (N := 11) hx hb hts inX0 hown hK hP 0 rfl rfl 7 (by decide) (hts _ kw_60) (fun _ h9 => h9) rfl dX0_makeRoom_1 ?_
  refine lv_iconst (v := 1) hx hb dX0_makeRoom_4 (by first | rfl | decide) ?_
  refine lv_iadd hx hb dX0_makeRoom_5 ?_
  refine lv_bipush (v := 6) hx hb dX0_makeRoom_6 (by first | rfl | decide) ?_
  refine lv_imul hx hb dX0_makeRoom_8 ?_
  refine lv_aload_n hx hb dX0_makeRoom_9 rfl (lv_at hl 0 rfl) ?_
  refine va_get (D := (dC, dI)) (ci := 0) (v := .ref q1) (C := "TileBins") (T := TX0) (N := 11) hx hb hts inX0 hown hK hP 0 rfl rfl 6 (by decide) (hts _ kw_59) (fun _ h9 => h9) rfl dX0_makeRoom_10 ?_
  refine va_alen hx hb hK hP 1 0 rfl rfl (v := nI an) rfl dX0_makeRoom_13 ?_
  refine lv_icmp_le (tgt := 35) hx hb dX0_makeRoom_14 (by decide) (fun c_1 => ?_) (fun c_1 => ?_)
  · refine W.widen (k := 1) (n := 6144) (Nat.le_of_ble_eq_true rfl) (Nat.le_of_ble_eq_true rfl) ?_
    exact W.vret hx hb hr (fun t ht hW => ⟨⟨(fw, fh, fs, fc, fl, fe, fi, ft, fo, fa, an, af), rfl, (show ((fw, fh, fs, fc, fl, fe, fi, ft, fo, fa, an, af) : TBA) = tb_room fw fh fs fc fl fe fi ft fo fa an af by unfold tb_room tb_rn tb_rf; rw [if_pos c_1, if_pos c_1]), q1, cA, by rw [ht]; exact hP, va_K.moved hW.alike hK, hD⟩, hS.F ht⟩) hS.2.2 dX0_makeRoom_35
  · refine lv_aload_n hx hb dX0_makeRoom_17 rfl (lv_at hl 0 rfl) ?_
    refine lv_aload_n hx hb dX0_makeRoom_18 rfl (lv_at hl 0 rfl) ?_
    refine va_get (D := (dC, dI)) (ci := 0) (v := .ref q1) (C := "TileBins") (T := TX0) (N := 11) hx hb hts inX0 hown hK hP 0 rfl rfl 6 (by decide) (hts _ kw_59) (fun _ h9 => h9) rfl dX0_makeRoom_19 ?_
    refine lv_iconst (v := 2) hx hb dX0_makeRoom_22 (by first | rfl | decide) ?_
    refine lv_aload_n hx hb dX0_makeRoom_23 rfl (lv_at hl 0 rfl) ?_
    refine va_get (D := (dC, dI)) (ci := 0) (v := .ref q1) (C := "TileBins") (T := TX0) (N := 11) hx hb hts inX0 hown hK hP 0 rfl rfl 6 (by decide) (hts _ kw_59) (fun _ h9 => h9) rfl dX0_makeRoom_24 ?_
    refine va_alen hx hb hK hP 1 0 rfl rfl (v := nI an) rfl dX0_makeRoom_27 ?_
    refine lv_imul hx hb dX0_makeRoom_28 ?_
    have hPc := hP.sub (ws' := [(q1, .inl (cA, an, .inl af))]) [1] rfl
    have hDc := hD.sub (ws' := [(q1, .inl (cA, an, .inl af))]) [1] (by decide) rfl
    have hKc := hK.sub (tys' := [(cA, .int)]) [0] rfl
    have hFc := va_free (wc := [(q1, .inl (cA, an, .inl af))]) hD hS hA [1] rfl
    refine va_callr (va_runS (As := [.ref q1, .int (2 * (nI an))]) (rest := [.ref h0]) ⟨hx, hb, hml, hown, hts⟩ (mtJ7_copyOf l dC dI q1 cA an af s.heap.size (2 * (nI an)) (2 * an) (lm_2 an) (by omega) (hcp c_1)) (va_cwS 2 hts (gb_s kw_214 kw_215 kw_30 kw_216) rfl rfl rfl (by decide +kernel) ⟨Nat.le_of_ble_eq_true rfl, Nat.le_of_ble_eq_true rfl⟩) ⟨mu_P.blind, mu_P.at hPc hKc hDc⟩ rfl rfl hl.1 rfl (lv_room (Nat.le_of_ble_eq_true rfl)) dX0_makeRoom_29 ⟨Nat.le_of_ble_eq_true rfl, Nat.le_of_ble_eq_true rfl⟩) hS (fun q _ h => hFc q h) hFc (fun u ra t H1 locs ht hvm hw hB hz1 hk1 hS => ?_)
    obtain ⟨cB, hP1, hK1, hD1⟩ := hB
    rw [ht] at hP1
    have hK1 := va_K.moved hvm.symm hK1
    obtain ⟨hP, hD⟩ := va_join (wr := [(h0, .inr (0, [.int fw, .int fh, .int fs, .int fc, .int fl, .int fe, .ref q1, .int fi, .int ft, .int fo, .int fa]))]) (w1 := [(q1, .inl (cA, an, .inl af)), (ra, .inl (cB, 2 * an, .inl (va_cpy af (fun _ => 0) (0 : Int32).toNatClampNeg (0 : Int32).toNatClampNeg (nI an).toNatClampNeg)))]) hP hD [1] [0] rfl rfl (by decide) (by decide) hk1 hFc hP1 hD1
    have hK := (hK.sub (tys' := []) [] rfl).app hK1
    generalize H1 = H at hP hS ⊢
    have hP : va_P (dC, dI) vwCl [(h0, .inr (0, [.int fw, .int fh, .int fs, .int fc, .int fl, .int fe, .ref q1, .int fi, .int ft, .int fo, .int fa])), (q1, .inl (cA, an, .inl af)), (ra, .inl (cB, 2 * an, .inl (va_cpy af (fun _ => 0) (0 : Int32).toNatClampNeg (0 : Int32).toNatClampNeg (nI an).toNatClampNeg)))] H := hP
    have hD : va_D A [(h0, .inr (0, [.int fw, .int fh, .int fs, .int fc, .int fl, .int fe, .ref q1, .int fi, .int ft, .int fo, .int fa])), (q1, .inl (cA, an, .inl af)), (ra, .inl (cB, 2 * an, .inl (va_cpy af (fun _ => 0) (0 : Int32).toNatClampNeg (0 : Int32).toNatClampNeg (nI an).toNatClampNeg)))] := hD
    have hK : va_K (dC, dI) vwCl [(cA, .int), (cB, .int)] s := hK
    refine va_put (D := (dC, dI)) (ci := 0) (v := .ref ra) (ty := (.array .int)) (C := "TileBins") (T := TX0) (N := 11) hx hb hts inX0 tyX0 tyX0_ok nmX0 hown hK hP hD hS 0 rfl rfl 6 (by decide) (hts _ kw_59) (fun _ h9 => h9) rfl (by decide +kernel) rfl rfl (Nat.le_of_ble_eq_true rfl) dX0_makeRoom_32 (fun H locs hP hD hS => ?_)
    have hP : va_P (dC, dI) vwCl [(h0, .inr (0, [.int fw, .int fh, .int fs, .int fc, .int fl, .int fe, .ref ra, .int fi, .int ft, .int fo, .int fa])), (q1, .inl (cA, an, .inl af)), (ra, .inl (cB, 2 * an, .inl (va_cpy af (fun _ => 0) (0 : Int32).toNatClampNeg (0 : Int32).toNatClampNeg (nI an).toNatClampNeg)))] H := hP
    have hD : va_D A [(h0, .inr (0, [.int fw, .int fh, .int fs, .int fc, .int fl, .int fe, .ref ra, .int fi, .int ft, .int fo, .int fa])), (q1, .inl (cA, an, .inl af)), (ra, .inl (cB, 2 * an, .inl (va_cpy af (fun _ => 0) (0 : Int32).toNatClampNeg (0 : Int32).toNatClampNeg (nI an).toNatClampNeg)))] := hD
    have hP := hP.sub (ws' := [(h0, .inr (0, [.int fw, .int fh, .int fs, .int fc, .int fl, .int fe, .ref ra, .int fi, .int ft, .int fo, .int fa])), (ra, .inl (cB, 2 * an, .inl (va_cpy af (fun _ => 0) (0 : Int32).toNatClampNeg (0 : Int32).toNatClampNeg (nI an).toNatClampNeg)))]) [0, 2] rfl
    have hD := hD.sub (ws' := [(h0, .inr (0, [.int fw, .int fh, .int fs, .int fc, .int fl, .int fe, .ref ra, .int fi, .int ft, .int fo, .int fa])), (ra, .inl (cB, 2 * an, .inl (va_cpy af (fun _ => 0) (0 : Int32).toNatClampNeg (0 : Int32).toNatClampNeg (nI an).toNatClampNeg)))]) [0, 2] (by decide) rfl
    have hK := hK.sub (tys' := [(cB, .int)]) [1] rfl
    exact W.vret hx hb hr (fun t ht hW => ⟨⟨(fw, fh, fs, fc, fl, fe, fi, ft, fo, fa, 2 * an, va_cpy af (fun _ => 0) (0 : Int32).toNatClampNeg (0 : Int32).toNatClampNeg (nI an).toNatClampNeg), rfl, (show ((fw, fh, fs, fc, fl, fe, fi, ft, fo, fa, 2 * an, va_cpy af (fun _ => 0) (0 : Int32).toNatClampNeg (0 : Int32).toNatClampNeg (nI an).toNatClampNeg) : TBA) = tb_room fw fh fs fc fl fe fi ft fo fa an af by unfold tb_room tb_rn tb_rf; rw [if_neg c_1, if_neg c_1]), ra, cB, by rw [ht]; exact hP, va_K.moved hW.alike hK, hD⟩, hS.F ht⟩) hS.2.2 dX0_makeRoom_35
def tb_new  : TBA := (1, 1, 3, (tb_across 3 0 1), (tb_across 3 0 1), 64, 0, 0, (-1), 0, 96, (fun _ => 0))
set_option maxHeartbeats 4000000 in
set_option maxRecDepth 100000 in
theorem mtX0_init (l : Launch) (dC : Nat → ClassId) (dI : Nat → Nat → Nat) (h0 : Nat) (sz : Nat) : Met l yX0_init wsX0_init ({ frames := 2, cells := 1, slots := 96, locals := 46 }) (va_Pc [.ref h0] (mu_P (dC, dI) vwCl [(h0, .inr (0, [.int 0, .int 0, .int 0, .int 0, .int 0, .int 0, .null, .int 0, .int 0, .int 0, .int 0]))] [] sz)) (va_Qv (fun u : TBA => u = tb_new) (tbAt (dC, dI) (va_A [(h0, .inr (0, [.int 0, .int 0, .int 0, .int 0, .int 0, .int 0, .null, .int 0, .int 0, .int 0, .int 0]))] sz) h0) (va_A [(h0, .inr (0, [.int 0, .int 0, .int 0, .int 0, .int 0, .int 0, .null, .int 0, .int 0, .int 0, .int 0]))] sz)) 1 96 (va_A [(h0, .inr (0, [.int 0, .int 0, .int 0, .int 0, .int 0, .int 0, .null, .int 0, .int 0, .int 0, .int 0]))] sz) := by
  refine Met.ofW (cc := cX0_init) (maxL := 1) (ret := none) (by decide) rfl ?_
  intro p e s m args below meth c s₁ B hml hv
  obtain ⟨rfl, hsz, hP, hK, hD0⟩ := hv
  have hx := B.exec
  have hb := B.bytes
  have hr := B.returns
  have hts : ∀ w ∈ gb, w.before _ s = true := fun w h => atoms_spec (ws := wsX0_init) B.pre w (List.mem_cons_of_mem _ h)
  have hown : s.vm.findClass "TileBins" = some m.cls := findClass_of_methodNamed B.named
  have hlocks := B.notSynchronized
  have hin : meth.name = "<init>" := (name_of_methodNamed B.named B.method).1
  subst hsz
  have hD := hD0.self (sz := s.heap.size)
  generalize hAe : va_A [(h0, .inr (0, [.int 0, .int 0, .int 0, .int 0, .int 0, .int 0, .null, .int 0, .int 0, .int 0, .int 0]))] s.heap.size = A at hD ⊢
  have hA : ∀ q : Nat, s.heap.size ≤ q → A q := fun q h => by rw [← hAe]; exact Or.inr h
  have hS : va_S A s.heap s.heap [] := va_S.rf
  have hP : va_P (dC, dI) vwCl [(h0, .inr (0, [.int 0, .int 0, .int 0, .int 0, .int 0, .int 0, .null, .int 0, .int 0, .int 0, .int 0]))] s.heap := hP
  have hl := lv_entry ([.ref h0]) (n := 1) (Nat.le_of_ble_eq_true rfl)
  rw [lg_entry_eq]
  generalize (lg_sl ([.ref h0]) ++ List.replicate (1 - (lg_sl ([.ref h0])).length) Slot.unset).toArray = ls at hl ⊢
  have hl : lv_has ls 1 [(0, .ref h0)] := hl
  refine lv_aload_n hx hb dX0_init_0 rfl (lv_at hl 0 rfl) ?_
  refine W.objInit hx hb hown (hts _ kw_38) (hts _ kw_39) (hts _ kw_obj) rfl (by rw [hml]; exact hl.1) rfl dX0_init_1 (Nat.le_of_ble_eq_true rfl) (Nat.le_of_ble_eq_true rfl) ?_
  refine W.eq (g2 := F0 m 4 ls []) rfl ?_
  refine lv_aload_n hx hb dX0_init_4 rfl (lv_at hl 0 rfl) ?_
  refine lv_bipush (v := 96) hx hb dX0_init_5 (by first | rfl | decide) ?_
  refine va_newa (atype := .int) (ty := .int) (a0 := (96, .inl (fun _ => 0))) (N' := 96) hx hb (hts _ kw_87) rfl hK hP hD hS hA (fun _ => rfl) (by decide) (by decide) (by decide) (Nat.le_of_ble_eq_true rfl) (Nat.le_of_ble_eq_true rfl) dX0_init_7 (fun qn_1 cn_2 H hK hP hD hS => ?_)
  have hP : va_P (dC, dI) vwCl [(h0, .inr (0, [.int 0, .int 0, .int 0, .int 0, .int 0, .int 0, .null, .int 0, .int 0, .int 0, .int 0])), (qn_1, .inl (cn_2, 96, .inl (fun _ => 0)))] H := hP
  have hD : va_D A [(h0, .inr (0, [.int 0, .int 0, .int 0, .int 0, .int 0, .int 0, .null, .int 0, .int 0, .int 0, .int 0])), (qn_1, .inl (cn_2, 96, .inl (fun _ => 0)))] := hD
  have hK : va_K (dC, dI) vwCl [(cn_2, .int)] s := hK
  refine W.widen (k := 1) (n := 96) (Nat.le_of_ble_eq_true rfl) (Nat.le_of_ble_eq_true rfl) ?_
  refine va_put (D := (dC, dI)) (ci := 0) (v := .ref qn_1) (ty := (.array .int)) (C := "TileBins") (T := TX0) (N := 11) hx hb hts inX0 tyX0 tyX0_ok nmX0 hown hK hP hD hS 0 rfl rfl 6 (by decide) (hts _ kw_59) (fun _ h9 => h9) rfl (by decide +kernel) rfl rfl (Nat.le_of_ble_eq_true rfl) dX0_init_9 (fun H locs hP hD hS => ?_)
  have hP : va_P (dC, dI) vwCl [(h0, .inr (0, [.int 0, .int 0, .int 0, .int 0, .int 0, .int 0, .ref qn_1, .int 0, .int 0, .int 0, .int 0])), (qn_1, .inl (cn_2, 96, .inl (fun _ => 0)))] H := hP
  have hD : va_D A [(h0, .inr (0, [.int 0, .int 0, .int 0, .int 0, .int 0, .int 0, .ref qn_1, .int 0, .int 0, .int 0, .int 0])), (qn_1, .inl (cn_2, 96, .inl (fun _ => 0)))] := hD
  refine lv_aload_n hx hb dX0_init_12 rfl (lv_at hl 0 rfl) ?_
  refine lv_iconst (v := 1) hx hb dX0_init_13 (by first | rfl | decide) ?_
  refine lv_iconst (v := 1) hx hb dX0_init_14 (by first | rfl | decide) ?_
  refine lv_iconst (v := 3) hx hb dX0_init_15 (by first | rfl | decide) ?_
  refine lv_bipush (v := 64) hx hb dX0_init_16 (by first | rfl | decide) ?_
  have hPc := hP.sub (ws' := [(h0, .inr (0, [.int 0, .int 0, .int 0, .int 0, .int 0, .int 0, .ref qn_1, .int 0, .int 0, .int 0, .int 0])), (qn_1, .inl (cn_2, 96, .inl (fun _ => 0)))]) [0, 1] rfl
  have hDc := hD.sub (ws' := [(h0, .inr (0, [.int 0, .int 0, .int 0, .int 0, .int 0, .int 0, .ref qn_1, .int 0, .int 0, .int 0, .int 0])), (qn_1, .inl (cn_2, 96, .inl (fun _ => 0)))]) [0, 1] (by decide) rfl
  have hKc := hK.sub (tys' := [(cn_2, .int)]) [0] rfl
  have hFc := va_free (wc := [(h0, .inr (0, [.int 0, .int 0, .int 0, .int 0, .int 0, .int 0, .ref qn_1, .int 0, .int 0, .int 0, .int 0])), (qn_1, .inl (cn_2, 96, .inl (fun _ => 0)))]) hD hS hA [0, 1] rfl
  refine va_callv (va_runV (As := [.int 1, .int 1, .int 3, .int 64]) (rest := []) ⟨hx, hb, hml, hown, hts⟩ (mtX0_layOut l dC dI h0 qn_1 cn_2 0 0 0 0 0 0 0 0 0 0 96 (fun _ => 0) H.size 1 1 3 64) (cwV 4 hts (gb_v kw_41 kw_43 kw_0 kw_22 kw_44) rfl rfl rfl (by decide +kernel) ⟨Nat.le_of_ble_eq_true rfl, Nat.le_of_ble_eq_true rfl⟩) ⟨mu_P.blind, va_recv hKc hPc (ci := 0) (q0 := 0) rfl rfl, mu_P.at hPc hKc hDc⟩ rfl rfl hl.1 rfl (lv_room (Nat.le_of_ble_eq_true rfl)) dX0_init_18 ⟨Nat.le_of_ble_eq_true rfl, Nat.le_of_ble_eq_true rfl⟩) hS (fun q _ h => hFc q h) hFc (fun u t H1 locs ht hvm hw hB hz1 hk1 hS => ?_)
  have hw : u = tb_lay 96 (fun _ => 0) 1 1 3 64 := hw
  subst hw
  obtain ⟨q1_3, cA_4, hP1, hK1, hD1⟩ := hB
  rw [ht] at hP1
  have hK1 := va_K.moved hvm.symm hK1
  obtain ⟨hP, hD⟩ := va_join (wr := []) (w1 := [(h0, .inr (0, [.int 1, .int 1, .int 3, .int (tb_across 3 0 1), .int (tb_across 3 0 1), .int 64, .ref q1_3, .int 0, .int 0, .int (-1), .int 0])), (q1_3, .inl (cA_4, 96, .inl (fun _ => 0)))]) hP hD [0, 1] [] rfl rfl (by decide) (by decide) hk1 hFc hP1 hD1
  have hK := (hK.sub (tys' := []) [] rfl).app hK1
  generalize H1 = H at hP hS ⊢
  have hP : va_P (dC, dI) vwCl [(h0, .inr (0, [.int 1, .int 1, .int 3, .int (tb_across 3 0 1), .int (tb_across 3 0 1), .int 64, .ref q1_3, .int 0, .int 0, .int (-1), .int 0])), (q1_3, .inl (cA_4, 96, .inl (fun _ => 0)))] H := hP
  have hD : va_D A [(h0, .inr (0, [.int 1, .int 1, .int 3, .int (tb_across 3 0 1), .int (tb_across 3 0 1), .int 64, .ref q1_3, .int 0, .int 0, .int (-1), .int 0])), (q1_3, .inl (cA_4, 96, .inl (fun _ => 0)))] := hD
  have hK : va_K (dC, dI) vwCl [(cA_4, .int)] s := hK
  exact W.vret hx hb hr (fun t ht hW => ⟨⟨(1, 1, 3, (tb_across 3 0 1), (tb_across 3 0 1), 64, 0, 0, (-1), 0, 96, (fun _ => 0)), rfl, rfl, q1_3, cA_4, by rw [ht]; exact hP, va_K.moved hW.alike hK, hD⟩, hS.F ht⟩) hS.2.2 dX0_init_21
def tb_empty (fw fh fs fc fl fe : Int32) (an : Nat) (af : Nat → Int32) : TBA := (fw, fh, fs, fc, fl, fe, 0, 0, (-1), 0, an, af)
set_option maxHeartbeats 4000000 in
set_option maxRecDepth 100000 in
theorem mtX0_empty (l : Launch) (dC : Nat → ClassId) (dI : Nat → Nat → Nat) (h0 q1 : Nat) (cA : ClassId) (fw fh fs fc fl fe fi ft fo fa : Int32) (an : Nat) (af : Nat → Int32) (sz : Nat) : Met l yX0_empty wsX0_empty ({ frames := 1, cells := 0, slots := 0, locals := 20 }) (va_Pc [.ref h0] (mu_P (dC, dI) vwCl [(h0, .inr (0, [.int fw, .int fh, .int fs, .int fc, .int fl, .int fe, .ref q1, .int fi, .int ft, .int fo, .int fa])), (q1, .inl (cA, an, .inl af))] [(cA, .int)] sz)) (va_Qv (fun u : TBA => u = tb_empty fw fh fs fc fl fe an af) (tbAt (dC, dI) (va_A [(h0, .inr (0, [.int fw, .int fh, .int fs, .int fc, .int fl, .int fe, .ref q1, .int fi, .int ft, .int fo, .int fa])), (q1, .inl (cA, an, .inl af))] sz) h0) (va_A [(h0, .inr (0, [.int fw, .int fh, .int fs, .int fc, .int fl, .int fe, .ref q1, .int fi, .int ft, .int fo, .int fa])), (q1, .inl (cA, an, .inl af))] sz)) 0 0 (va_A [(h0, .inr (0, [.int fw, .int fh, .int fs, .int fc, .int fl, .int fe, .ref q1, .int fi, .int ft, .int fo, .int fa])), (q1, .inl (cA, an, .inl af))] sz) := by
  refine Met.ofW (cc := cX0_empty) (maxL := 1) (ret := none) (by decide) rfl ?_
  intro p e s m args below meth c s₁ B hml hv
  obtain ⟨rfl, hsz, hP, hK, hD0⟩ := hv
  have hx := B.exec
  have hb := B.bytes
  have hr := B.returns
  have hts : ∀ w ∈ gb, w.before _ s = true := fun w h => atoms_spec (ws := wsX0_empty) B.pre w (List.mem_cons_of_mem _ h)
  have hown : s.vm.findClass "TileBins" = some m.cls := findClass_of_methodNamed B.named
  have hlocks := B.notSynchronized
  subst hsz
  have hD := hD0.self (sz := s.heap.size)
  generalize hAe : va_A [(h0, .inr (0, [.int fw, .int fh, .int fs, .int fc, .int fl, .int fe, .ref q1, .int fi, .int ft, .int fo, .int fa])), (q1, .inl (cA, an, .inl af))] s.heap.size = A at hD ⊢
  have hA : ∀ q : Nat, s.heap.size ≤ q → A q := fun q h => by rw [← hAe]; exact Or.inr h
  have hS : va_S A s.heap s.heap [] := va_S.rf
  have hP : va_P (dC, dI) vwCl [(h0, .inr (0, [.int fw, .int fh, .int fs, .int fc, .int fl, .int fe, .ref q1, .int fi, .int ft, .int fo, .int fa])), (q1, .inl (cA, an, .inl af))] s.heap := hP
  have hl := lv_entry ([.ref h0]) (n := 1) (Nat.le_of_ble_eq_true rfl)
  rw [lg_entry_eq]
  generalize (lg_sl ([.ref h0]) ++ List.replicate (1 - (lg_sl ([.ref h0])).length) Slot.unset).toArray = ls at hl ⊢
  have hl : lv_has ls 1 [(0, .ref h0)] := hl
  refine lv_aload_n hx hb dX0_empty_0 rfl (lv_at hl 0 rfl) ?_
  have hPc := hP.sub (ws' := [(h0, .inr (0, [.int fw, .int fh, .int fs, .int fc, .int fl, .int fe, .ref q1, .int fi, .int ft, .int fo, .int fa])), (q1, .inl (cA, an, .inl af))]) [0, 1] rfl
  have hDc := hD.sub (ws' := [(h0, .inr (0, [.int fw, .int fh, .int fs, .int fc, .int fl, .int fe, .ref q1, .int fi, .int ft, .int fo, .int fa])), (q1, .inl (cA, an, .inl af))]) [0, 1] (by decide) rfl
  have hKc := hK.sub (tys' := [(cA, .int)]) [0] rfl
  have hFc := va_free (wc := [(h0, .inr (0, [.int fw, .int fh, .int fs, .int fc, .int fl, .int fe, .ref q1, .int fi, .int ft, .int fo, .int fa])), (q1, .inl (cA, an, .inl af))]) hD hS hA [0, 1] rfl
  refine va_callv (va_runV (As := []) (rest := []) ⟨hx, hb, hml, hown, hts⟩ (mtX0_takeAllOut l dC dI h0 q1 cA fw fh fs fc fl fe fi ft fo fa an af s.heap.size ) (cwV 0 hts (gb_v kw_49 kw_51 kw_2 kw_22 kw_52) rfl rfl rfl (by decide +kernel) ⟨Nat.le_of_ble_eq_true rfl, Nat.le_of_ble_eq_true rfl⟩) ⟨mu_P.blind, va_recv hKc hPc (ci := 0) (q0 := 0) rfl rfl, mu_P.at hPc hKc hDc⟩ rfl rfl hl.1 rfl (lv_room (Nat.le_of_ble_eq_true rfl)) dX0_empty_1 ⟨Nat.le_of_ble_eq_true rfl, Nat.le_of_ble_eq_true rfl⟩) hS (fun q _ h => hFc q h) hFc (fun u t H1 locs ht hvm hw hB hz1 hk1 hS => ?_)
  have hw : u = tb_taken0 fw fh fs fc fl fe an af := hw
  subst hw
  obtain ⟨q1_1, cA_2, hP1, hK1, hD1⟩ := hB
  rw [ht] at hP1
  have hK1 := va_K.moved hvm.symm hK1
  obtain ⟨hP, hD⟩ := va_join (wr := []) (w1 := [(h0, .inr (0, [.int fw, .int fh, .int fs, .int fc, .int fl, .int fe, .ref q1_1, .int 0, .int 0, .int (-1), .int 0])), (q1_1, .inl (cA_2, an, .inl af))]) hP hD [0, 1] [] rfl rfl (by decide) (by decide) hk1 hFc hP1 hD1
  have hK := (hK.sub (tys' := []) [] rfl).app hK1
  generalize H1 = H at hP hS ⊢
  have hP : va_P (dC, dI) vwCl [(h0, .inr (0, [.int fw, .int fh, .int fs, .int fc, .int fl, .int fe, .ref q1_1, .int 0, .int 0, .int (-1), .int 0])), (q1_1, .inl (cA_2, an, .inl af))] H := hP
  have hD : va_D A [(h0, .inr (0, [.int fw, .int fh, .int fs, .int fc, .int fl, .int fe, .ref q1_1, .int 0, .int 0, .int (-1), .int 0])), (q1_1, .inl (cA_2, an, .inl af))] := hD
  have hK : va_K (dC, dI) vwCl [(cA_2, .int)] s := hK
  exact W.vret hx hb hr (fun t ht hW => ⟨⟨(fw, fh, fs, fc, fl, fe, 0, 0, (-1), 0, an, af), rfl, rfl, q1_1, cA_2, by rw [ht]; exact hP, va_K.moved hW.alike hK, hD⟩, hS.F ht⟩) hS.2.2 dX0_empty_4
end
section
theorem lm_rn {fi : Int32} {N an : Nat} (hN : fi = nI N) (hNb : N * 6 ≤ an) (hN5 : N ≤ 511) (han0 : 6 ≤ an) (han : an ≤ 3072) : N * 6 + 5 < tb_rn fi an ∧ tb_rn fi an < 2 ^ 31 := by
  have hc : ((fi + 1) * 6) ≤ nI an ↔ (N + 1) * 6 ≤ an := by rw [hN, nI_1, lm_6, pk_mul, nI_leI (by omega) (by omega)]
  unfold tb_rn
  split
  · rename_i h
    rw [hc] at h
    omega
  · omega
theorem lm_it {fi a1 a2 : Int32} {N an : Nat} (hN : fi = nI N) (hNb : N * 6 ≤ an) (han : an < 2 ^ 31) (c1 : ¬ a1 < 0) (c2 : a1 < fi) (c3 : ¬ a2 < 0) (c4 : a2 < 6) : vp_in ((a1 * 6) + a2) an := by
  obtain ⟨j, hj, rfl⟩ := nI_of c1
  obtain ⟨k, hk, rfl⟩ := nI_of c3
  rw [hN, nI_ltI hj (by omega)] at c2
  rw [lm_6, nI_ltI hk (by omega)] at c4
  rw [lm_6, pk_mul, nI_add]
  exact vp_in_nI (by omega) han
def tb_field (fw fh fs fc fl fe fi ft fo fa : Int32) (an : Nat) (af : Nat → Int32) (a1 a2 a3 a4 : Int32) : Nat × Int32 × TBA := (if (tb_within a1 1 1024) = 0 then (1, 0, (fw, fh, fs, fc, fl, fe, fi, ft, fo, fa, an, af)) else (if (tb_within a2 1 1024) = 0 then (1, 0, (fw, fh, fs, fc, fl, fe, fi, ft, fo, fa, an, af)) else (if (tb_power a3) = (-1) then (1, 0, (fw, fh, fs, fc, fl, fe, fi, ft, fo, fa, an, af)) else (if (tb_within a4 1 8192) = 0 then (1, 0, (fw, fh, fs, fc, fl, fe, fi, ft, fo, fa, an, af)) else (0, tb_tiles (tb_across (tb_power a3) 0 a1) (tb_across (tb_power a3) 0 a2), (a1, a2, (tb_power a3), (tb_across (tb_power a3) 0 a1), (tb_across (tb_power a3) 0 a2), a4, 0, 0, (-1), 0, an, af))))))
set_option maxHeartbeats 4000000 in
set_option maxRecDepth 100000 in
theorem mtX0_field (l : Launch) (hl9 : l.stackTraces = false) (dC : Nat → ClassId) (dI : Nat → Nat → Nat) (h0 q1 : Nat) (cA : ClassId) (fw fh fs fc fl fe fi ft fo fa : Int32) (an : Nat) (af : Nat → Int32) (sz : Nat) (a1 a2 a3 a4 : Int32) : vx_Met l yX0_field wsX0_field ({ frames := 6, cells := 1, slots := 6, locals := 91 }) (va_Pc [.ref h0, .int a1, .int a2, .int a3, .int a4] (zz_P (dC, dI) vwCl [(h0, .inr (0, [.int fw, .int fh, .int fs, .int fc, .int fl, .int fe, .ref q1, .int fi, .int ft, .int fo, .int fa])), (q1, .inl (cA, an, .inl af))] [(cA, .int)] sz)) (va_Qi (fun (r : Int32) (u : TBA) => (0, r, u) = tb_field fw fh fs fc fl fe fi ft fo fa an af a1 a2 a3 a4) (tbAt (dC, dI) (va_A [(h0, .inr (0, [.int fw, .int fh, .int fs, .int fc, .int fl, .int fe, .ref q1, .int fi, .int ft, .int fo, .int fa])), (q1, .inl (cA, an, .inl af))] sz) h0) (va_A [(h0, .inr (0, [.int fw, .int fh, .int fs, .int fc, .int fl, .int fe, .ref q1, .int fi, .int ft, .int fo, .int fa])), (q1, .inl (cA, an, .inl af))] sz)) (vx_X (fun (u : Nat × TBA) => (u.1, (0 : Int32), u.2) = tb_field fw fh fs fc fl fe fi ft fo fa an af a1 a2 a3 a4) (fun E u t => E = tb_exa u.1 ∧ tbAt (dC, dI) (va_A [(h0, .inr (0, [.int fw, .int fh, .int fs, .int fc, .int fl, .int fe, .ref q1, .int fi, .int ft, .int fo, .int fa])), (q1, .inl (cA, an, .inl af))] sz) h0 u.2 t) (va_A [(h0, .inr (0, [.int fw, .int fh, .int fs, .int fc, .int fl, .int fe, .ref q1, .int fi, .int ft, .int fo, .int fa])), (q1, .inl (cA, an, .inl af))] sz)) 1 6 (va_A [(h0, .inr (0, [.int fw, .int fh, .int fs, .int fc, .int fl, .int fe, .ref q1, .int fi, .int ft, .int fo, .int fa])), (q1, .inl (cA, an, .inl af))] sz) := by
  refine vx_ofW (cc := cX0_field) (maxL := 6) (ret := (some .int)) (by decide) rfl ?_
  intro p e s m args below meth c s₁ B hml hEx hv
  obtain ⟨rfl, ⟨hsz, hP, hK, hD0⟩, hZ⟩ := hv
  have hx := B.exec
  have hb := B.bytes
  have hr := B.returns
  have hts : ∀ w ∈ gb, w.before _ s = true := fun w h => atoms_spec (ws := wsX0_field) B.pre w (List.mem_cons_of_mem _ h)
  have hown : s.vm.findClass "TileBins" = some m.cls := findClass_of_methodNamed B.named
  have hlocks := B.notSynchronized
  subst hsz
  have hD := hD0.self (sz := s.heap.size)
  generalize hAe : va_A [(h0, .inr (0, [.int fw, .int fh, .int fs, .int fc, .int fl, .int fe, .ref q1, .int fi, .int ft, .int fo, .int fa])), (q1, .inl (cA, an, .inl af))] s.heap.size = A at hD hZ ⊢
  have hA : ∀ q : Nat, s.heap.size ≤ q → A q := fun q h => by rw [← hAe]; exact Or.inr h
  have hS : va_S A s.heap s.heap [] := va_S.rf
  have hP : va_P (dC, dI) vwCl [(h0, .inr (0, [.int fw, .int fh, .int fs, .int fc, .int fl, .int fe, .ref q1, .int fi, .int ft, .int fo, .int fa])), (q1, .inl (cA, an, .inl af))] s.heap := hP
  have hl := lv_entry ([.ref h0, .int a1, .int a2, .int a3, .int a4]) (n := 6) (Nat.le_of_ble_eq_true rfl)
  rw [lg_entry_eq]
  generalize (lg_sl ([.ref h0, .int a1, .int a2, .int a3, .int a4]) ++ List.replicate (6 - (lg_sl ([.ref h0, .int a1, .int a2, .int a3, .int a4])).length) Slot.unset).toArray = ls at hl ⊢
  have hl : lv_has ls 6 [(0, .ref h0), (1, .int a1), (2, .int a2), (3, .int a3), (4, .int a4)] := hl
  refine lv_iload_n hx hb dX0_field_0 rfl (lv_at hl 1 rfl) ?_
  refine lv_iconst (v := 1) hx hb dX0_field_1 (by first | rfl | decide) ?_
  refine lv_sipush (v := 1024) hx hb dX0_field_2 (by first | rfl | decide) ?_
  refine ro_calli (va_runS (As := [.int a1, .int 1, .int 1024]) (rest := []) ⟨hx, hb, hml, hown, hts⟩ (mtX0_isWithin l dC dI  s.heap.size a1 1 1024) (va_cwS 3 hts (gb_s kw_100 kw_101 kw_22 kw_102) rfl rfl rfl (by decide +kernel) ⟨Nat.le_of_ble_eq_true rfl, Nat.le_of_ble_eq_true rfl⟩) ⟨ro_P.blind, ro_P.at (hP.sub [] rfl) (hK.sub [] rfl)⟩ rfl rfl hl.1 rfl (lv_room (Nat.le_of_ble_eq_true rfl)) dX0_field_5 ⟨Nat.le_of_ble_eq_true rfl, Nat.le_of_ble_eq_true rfl⟩) hP hS hA (fun H locs hP hS hz hk => ?_)
  refine lv_if_eq (tgt := 22) hx hb dX0_field_8 (by decide) (fun c_1 => ?_) (fun c_1 => ?_)
  · obtain ⟨sa_2, hsa_3⟩ := hZ.str (23, "a field is 1 to 1024 places wide and high") (by decide +kernel)
    exact vx_throwS (rest := []) (mc := 1) (ms := 6) hx hb hl9 (own := "TileBins") (cls := "java/lang/IllegalArgumentException") (text := "a field is 1 to 1024 places wide and high") (names := ["java/lang/RuntimeException", "java/lang/Exception"]) hown (by decide +kernel) (by decide +kernel) (hts _ kw_103) (hts _ kw_27) hsa_3 (vx_hat (fun w hw => hts w (hx_Aa w hw)) hx_Ab hZ.bad) hx_Ac hZ.u hZ.n hS (hl.1.trans hml.symm) dX0_field_22 dX0_field_25 dX0_field_26 dX0_field_28 dX0_field_31 (fun x hx => (hEx x hx).elim) (Nat.le_of_ble_eq_true rfl) (Nat.le_of_ble_eq_true rfl) (Nat.le_of_ble_eq_true rfl) (Nat.le_of_ble_eq_true rfl) hlocks (fun t ha hz hk => ⟨(1, (fw, fh, fs, fc, fl, fe, fi, ft, fo, fa, an, af)), (show ((1 : Nat), (0 : Int32), ((fw, fh, fs, fc, fl, fe, fi, ft, fo, fa, an, af) : TBA)) = tb_field fw fh fs fc fl fe fi ft fo fa an af a1 a2 a3 a4 by unfold tb_field; rw [if_pos c_1]), ⟨rfl, q1, cA, ro_kept hP hk, va_K.moved ha hK, hD⟩, th_F hS hz hk⟩) hS.2.2 (Nat.le_of_ble_eq_true rfl) (Nat.le_of_ble_eq_true rfl)
  · refine lv_iload_n hx hb dX0_field_11 rfl (lv_at hl 2 rfl) ?_
    refine lv_iconst (v := 1) hx hb dX0_field_12 (by first | rfl | decide) ?_
    refine lv_sipush (v := 1024) hx hb dX0_field_13 (by first | rfl | decide) ?_
    refine ro_calli (va_runS (As := [.int a2, .int 1, .int 1024]) (rest := []) ⟨hx, hb, hml, hown, hts⟩ (mtX0_isWithin l dC dI  H.size a2 1 1024) (va_cwS 3 hts (gb_s kw_100 kw_101 kw_22 kw_102) rfl rfl rfl (by decide +kernel) ⟨Nat.le_of_ble_eq_true rfl, Nat.le_of_ble_eq_true rfl⟩) ⟨ro_P.blind, ro_P.at (hP.sub [] rfl) (hK.sub [] rfl)⟩ rfl rfl hl.1 rfl (lv_room (Nat.le_of_ble_eq_true rfl)) dX0_field_16 ⟨Nat.le_of_ble_eq_true rfl, Nat.le_of_ble_eq_true rfl⟩) hP hS hA (fun H locs hP hS hz hk => ?_)
    refine lv_if_ne (tgt := 32) hx hb dX0_field_19 (by decide) (fun c_4 => ?_) (fun c_4 => ?_)
    · refine lv_iload_n hx hb dX0_field_32 rfl (lv_at hl 3 rfl) ?_
      refine ro_calli (va_runS (As := [.int a3]) (rest := []) ⟨hx, hb, hml, hown, hts⟩ (mtX0_powerOf l dC dI  H.size a3) (va_cwS 1 hts (gb_s kw_171 kw_172 kw_22 kw_173) rfl rfl rfl (by decide +kernel) ⟨Nat.le_of_ble_eq_true rfl, Nat.le_of_ble_eq_true rfl⟩) ⟨ro_P.blind, ro_P.at (hP.sub [] rfl) (hK.sub [] rfl)⟩ rfl rfl hl.1 rfl (lv_room (Nat.le_of_ble_eq_true rfl)) dX0_field_33 ⟨Nat.le_of_ble_eq_true rfl, Nat.le_of_ble_eq_true rfl⟩) hP hS hA (fun H locs hP hS hz hk => ?_)
      refine lv_istore (lv' := [(5, .int (tb_power a3)), (0, .ref h0), (1, .int a1), (2, .int a2), (3, .int a3), (4, .int a4)]) hx hb dX0_field_36 hl (by decide) rfl (fun ls hl => ?_)
      refine lv_iload hx hb dX0_field_38 (lv_at hl 0 rfl) ?_
      refine lv_iconst (v := (-1)) hx hb dX0_field_40 (by first | rfl | decide) ?_
      refine lv_icmp_ne (tgt := 54) hx hb dX0_field_41 (by decide) (fun c_5 => ?_) (fun c_5 => ?_)
      · refine lv_iload hx hb dX0_field_54 (lv_at hl 5 rfl) ?_
        refine lv_iconst (v := 1) hx hb dX0_field_56 (by first | rfl | decide) ?_
        refine lv_sipush (v := 8192) hx hb dX0_field_57 (by first | rfl | decide) ?_
        refine ro_calli (va_runS (As := [.int a4, .int 1, .int 8192]) (rest := []) ⟨hx, hb, hml, hown, hts⟩ (mtX0_isWithin l dC dI  H.size a4 1 8192) (va_cwS 3 hts (gb_s kw_100 kw_101 kw_22 kw_102) rfl rfl rfl (by decide +kernel) ⟨Nat.le_of_ble_eq_true rfl, Nat.le_of_ble_eq_true rfl⟩) ⟨ro_P.blind, ro_P.at (hP.sub [] rfl) (hK.sub [] rfl)⟩ rfl rfl hl.1 rfl (lv_room (Nat.le_of_ble_eq_true rfl)) dX0_field_60 ⟨Nat.le_of_ble_eq_true rfl, Nat.le_of_ble_eq_true rfl⟩) hP hS hA (fun H locs hP hS hz hk => ?_)
        refine lv_if_ne (tgt := 76) hx hb dX0_field_63 (by decide) (fun c_6 => ?_) (fun c_6 => ?_)
        · refine lv_aload_n hx hb dX0_field_76 rfl (lv_at hl 1 rfl) ?_
          refine lv_iload_n hx hb dX0_field_77 rfl (lv_at hl 2 rfl) ?_
          refine lv_iload_n hx hb dX0_field_78 rfl (lv_at hl 3 rfl) ?_
          refine lv_iload hx hb dX0_field_79 (lv_at hl 0 rfl) ?_
          refine lv_iload hx hb dX0_field_81 (lv_at hl 5 rfl) ?_
          have hPc := hP.sub (ws' := [(h0, .inr (0, [.int fw, .int fh, .int fs, .int fc, .int fl, .int fe, .ref q1, .int fi, .int ft, .int fo, .int fa])), (q1, .inl (cA, an, .inl af))]) [0, 1] rfl
          have hDc := hD.sub (ws' := [(h0, .inr (0, [.int fw, .int fh, .int fs, .int fc, .int fl, .int fe, .ref q1, .int fi, .int ft, .int fo, .int fa])), (q1, .inl (cA, an, .inl af))]) [0, 1] (by decide) rfl
          have hKc := hK.sub (tys' := [(cA, .int)]) [0] rfl
          have hFc := va_free (wc := [(h0, .inr (0, [.int fw, .int fh, .int fs, .int fc, .int fl, .int fe, .ref q1, .int fi, .int ft, .int fo, .int fa])), (q1, .inl (cA, an, .inl af))]) hD hS hA [0, 1] rfl
          refine va_callv (va_runV (As := [.int a1, .int a2, .int (tb_power a3), .int a4]) (rest := []) ⟨hx, hb, hml, hown, hts⟩ (mtX0_layOut l dC dI h0 q1 cA fw fh fs fc fl fe fi ft fo fa an af H.size a1 a2 (tb_power a3) a4) (cwV 4 hts (gb_v kw_41 kw_43 kw_0 kw_22 kw_44) rfl rfl rfl (by decide +kernel) ⟨Nat.le_of_ble_eq_true rfl, Nat.le_of_ble_eq_true rfl⟩) ⟨mu_P.blind, va_recv hKc hPc (ci := 0) (q0 := 0) rfl rfl, mu_P.at hPc hKc hDc⟩ rfl rfl hl.1 rfl (lv_room (Nat.le_of_ble_eq_true rfl)) dX0_field_83 ⟨Nat.le_of_ble_eq_true rfl, Nat.le_of_ble_eq_true rfl⟩) hS (fun q _ h => hFc q h) hFc (fun u t H1 locs ht hvm hw hB hz1 hk1 hS => ?_)
          have hw : u = tb_lay an af a1 a2 (tb_power a3) a4 := hw
          subst hw
          obtain ⟨q1_7, cA_8, hP1, hK1, hD1⟩ := hB
          rw [ht] at hP1
          have hK1 := va_K.moved hvm.symm hK1
          obtain ⟨hP, hD⟩ := va_join (wr := []) (w1 := [(h0, .inr (0, [.int a1, .int a2, .int (tb_power a3), .int (tb_across (tb_power a3) 0 a1), .int (tb_across (tb_power a3) 0 a2), .int a4, .ref q1_7, .int 0, .int 0, .int (-1), .int 0])), (q1_7, .inl (cA_8, an, .inl af))]) hP hD [0, 1] [] rfl rfl (by decide) (by decide) hk1 hFc hP1 hD1
          have hK := (hK.sub (tys' := []) [] rfl).app hK1
          generalize H1 = H at hP hS ⊢
          have hP : va_P (dC, dI) vwCl [(h0, .inr (0, [.int a1, .int a2, .int (tb_power a3), .int (tb_across (tb_power a3) 0 a1), .int (tb_across (tb_power a3) 0 a2), .int a4, .ref q1_7, .int 0, .int 0, .int (-1), .int 0])), (q1_7, .inl (cA_8, an, .inl af))] H := hP
          have hD : va_D A [(h0, .inr (0, [.int a1, .int a2, .int (tb_power a3), .int (tb_across (tb_power a3) 0 a1), .int (tb_across (tb_power a3) 0 a2), .int a4, .ref q1_7, .int 0, .int 0, .int (-1), .int 0])), (q1_7, .inl (cA_8, an, .inl af))] := hD
          have hK : va_K (dC, dI) vwCl [(cA_8, .int)] s := hK
          refine lv_aload_n hx hb dX0_field_86 rfl (lv_at hl 1 rfl) ?_
          refine ro_calli (va_runV (As := []) (rest := []) ⟨hx, hb, hml, hown, hts⟩ (mtX0_tilesInAll l dC dI h0 q1_7 cA_8 a1 a2 (tb_power a3) (tb_across (tb_power a3) 0 a1) (tb_across (tb_power a3) 0 a2) a4 0 0 (-1) 0 an af H.size ) (cwV 0 hts (gb_v kw_176 kw_178 kw_4 kw_22 kw_179) rfl rfl rfl (by decide +kernel) ⟨Nat.le_of_ble_eq_true rfl, Nat.le_of_ble_eq_true rfl⟩) ⟨ro_P.blind, va_recv hK hP (ci := 0) (q0 := 0) rfl rfl, ro_P.at hP hK⟩ rfl rfl hl.1 rfl (lv_room (Nat.le_of_ble_eq_true rfl)) dX0_field_87 ⟨Nat.le_of_ble_eq_true rfl, Nat.le_of_ble_eq_true rfl⟩) hP hS hA (fun H locs hP hS hz hk => ?_)
          refine W.widen (k := 1) (n := 6) (Nat.le_of_ble_eq_true rfl) (Nat.le_of_ble_eq_true rfl) ?_
          refine vx_ret ?_
          exact W.iret (v := tb_tiles (tb_across (tb_power a3) 0 a1) (tb_across (tb_power a3) 0 a2)) hx hb hr (fun t ht hW => ⟨⟨_, (a1, a2, (tb_power a3), (tb_across (tb_power a3) 0 a1), (tb_across (tb_power a3) 0 a2), a4, 0, 0, (-1), 0, an, af), rfl, (show ((0, (tb_tiles (tb_across (tb_power a3) 0 a1) (tb_across (tb_power a3) 0 a2) : Int32), (a1, a2, (tb_power a3), (tb_across (tb_power a3) 0 a1), (tb_across (tb_power a3) 0 a2), a4, 0, 0, (-1), 0, an, af)) : Nat × Int32 × TBA) = tb_field fw fh fs fc fl fe fi ft fo fa an af a1 a2 a3 a4 by unfold tb_field; rw [if_neg c_1, if_neg c_4, if_neg c_5, if_neg c_6]), q1_7, cA_8, by rw [ht]; exact hP, va_K.moved hW.alike hK, hD⟩, hS.F ht⟩) hS.2.2 dX0_field_90
        · obtain ⟨sa_9, hsa_10⟩ := hZ.str (34, "a store has 1 to 8192 cells") (by decide +kernel)
          exact vx_throwS (rest := []) (mc := 1) (ms := 6) hx hb hl9 (own := "TileBins") (cls := "java/lang/IllegalArgumentException") (text := "a store has 1 to 8192 cells") (names := ["java/lang/RuntimeException", "java/lang/Exception"]) hown (by decide +kernel) (by decide +kernel) (hts _ kw_103) (hts _ kw_27) hsa_10 (vx_hat (fun w hw => hts w (hx_Aa w hw)) hx_Ab hZ.bad) hx_Ac hZ.u hZ.n hS (hl.1.trans hml.symm) dX0_field_66 dX0_field_69 dX0_field_70 dX0_field_72 dX0_field_75 (fun x hx => (hEx x hx).elim) (Nat.le_of_ble_eq_true rfl) (Nat.le_of_ble_eq_true rfl) (Nat.le_of_ble_eq_true rfl) (Nat.le_of_ble_eq_true rfl) hlocks (fun t ha hz hk => ⟨(1, (fw, fh, fs, fc, fl, fe, fi, ft, fo, fa, an, af)), (show ((1 : Nat), (0 : Int32), ((fw, fh, fs, fc, fl, fe, fi, ft, fo, fa, an, af) : TBA)) = tb_field fw fh fs fc fl fe fi ft fo fa an af a1 a2 a3 a4 by unfold tb_field; rw [if_neg c_1, if_neg c_4, if_neg c_5, if_pos c_6]), ⟨rfl, q1, cA, ro_kept hP hk, va_K.moved ha hK, hD⟩, th_F hS hz hk⟩) hS.2.2 (Nat.le_of_ble_eq_true rfl) (Nat.le_of_ble_eq_true rfl)
      · obtain ⟨sa_11, hsa_12⟩ := hZ.str (32, "a side is 8, 16, 32 or 64") (by decide +kernel)
        exact vx_throwS (rest := []) (mc := 1) (ms := 6) hx hb hl9 (own := "TileBins") (cls := "java/lang/IllegalArgumentException") (text := "a side is 8, 16, 32 or 64") (names := ["java/lang/RuntimeException", "java/lang/Exception"]) hown (by decide +kernel) (by decide +kernel) (hts _ kw_103) (hts _ kw_27) hsa_12 (vx_hat (fun w hw => hts w (hx_Aa w hw)) hx_Ab hZ.bad) hx_Ac hZ.u hZ.n hS (hl.1.trans hml.symm) dX0_field_44 dX0_field_47 dX0_field_48 dX0_field_50 dX0_field_53 (fun x hx => (hEx x hx).elim) (Nat.le_of_ble_eq_true rfl) (Nat.le_of_ble_eq_true rfl) (Nat.le_of_ble_eq_true rfl) (Nat.le_of_ble_eq_true rfl) hlocks (fun t ha hz hk => ⟨(1, (fw, fh, fs, fc, fl, fe, fi, ft, fo, fa, an, af)), (show ((1 : Nat), (0 : Int32), ((fw, fh, fs, fc, fl, fe, fi, ft, fo, fa, an, af) : TBA)) = tb_field fw fh fs fc fl fe fi ft fo fa an af a1 a2 a3 a4 by unfold tb_field; rw [if_neg c_1, if_neg c_4, if_pos c_5]), ⟨rfl, q1, cA, ro_kept hP hk, va_K.moved ha hK, hD⟩, th_F hS hz hk⟩) hS.2.2 (Nat.le_of_ble_eq_true rfl) (Nat.le_of_ble_eq_true rfl)
    · obtain ⟨sa_13, hsa_14⟩ := hZ.str (23, "a field is 1 to 1024 places wide and high") (by decide +kernel)
      exact vx_throwS (rest := []) (mc := 1) (ms := 6) hx hb hl9 (own := "TileBins") (cls := "java/lang/IllegalArgumentException") (text := "a field is 1 to 1024 places wide and high") (names := ["java/lang/RuntimeException", "java/lang/Exception"]) hown (by decide +kernel) (by decide +kernel) (hts _ kw_103) (hts _ kw_27) hsa_14 (vx_hat (fun w hw => hts w (hx_Aa w hw)) hx_Ab hZ.bad) hx_Ac hZ.u hZ.n hS (hl.1.trans hml.symm) dX0_field_22 dX0_field_25 dX0_field_26 dX0_field_28 dX0_field_31 (fun x hx => (hEx x hx).elim) (Nat.le_of_ble_eq_true rfl) (Nat.le_of_ble_eq_true rfl) (Nat.le_of_ble_eq_true rfl) (Nat.le_of_ble_eq_true rfl) hlocks (fun t ha hz hk => ⟨(1, (fw, fh, fs, fc, fl, fe, fi, ft, fo, fa, an, af)), (show ((1 : Nat), (0 : Int32), ((fw, fh, fs, fc, fl, fe, fi, ft, fo, fa, an, af) : TBA)) = tb_field fw fh fs fc fl fe fi ft fo fa an af a1 a2 a3 a4 by unfold tb_field; rw [if_neg c_1, if_pos c_4]), ⟨rfl, q1, cA, ro_kept hP hk, va_K.moved ha hK, hD⟩, th_F hS hz hk⟩) hS.2.2 (Nat.le_of_ble_eq_true rfl) (Nat.le_of_ble_eq_true rfl)
def tb_put (fw fh fs fc fl fe fi ft fo fa : Int32) (an : Nat) (af : Nat → Int32) (a1 a2 a3 a4 a5 : Int32) : Nat × Int32 × TBA := (if (if fw < a3 then fw else a3) ≤ (if a1 < 0 then 0 else a1) then (if 4096 ≤ fi then (1, 0, (fw, fh, fs, fc, fl, fe, fi, ft, fo, fa, an, af)) else (if (0 : Int32) ≤ (fe - ft) then (0, (fi + 1) - 1, (fw, fh, fs, fc, fl, fe, fi + 1, ft + 0, fo, fa, tb_rn fi an, upd (upd (upd (upd (upd (upd (tb_rf fi an af) ((fi * 6) + 0).toNatClampNeg 0) ((fi * 6) + 1).toNatClampNeg 0) ((fi * 6) + 2).toNatClampNeg 0) ((fi * 6) + 3).toNatClampNeg 0) ((fi * 6) + 4).toNatClampNeg a5) ((fi * 6) + 5).toNatClampNeg 0)) else (1, 0, (fw, fh, fs, fc, fl, fe, fi, ft, fo, fa, an, af)))) else (if (if fh < a4 then fh else a4) ≤ (if a2 < 0 then 0 else a2) then (if 4096 ≤ fi then (1, 0, (fw, fh, fs, fc, fl, fe, fi, ft, fo, fa, an, af)) else (if (0 : Int32) ≤ (fe - ft) then (0, (fi + 1) - 1, (fw, fh, fs, fc, fl, fe, fi + 1, ft + 0, fo, fa, tb_rn fi an, upd (upd (upd (upd (upd (upd (tb_rf fi an af) ((fi * 6) + 0).toNatClampNeg 0) ((fi * 6) + 1).toNatClampNeg 0) ((fi * 6) + 2).toNatClampNeg 0) ((fi * 6) + 3).toNatClampNeg 0) ((fi * 6) + 4).toNatClampNeg a5) ((fi * 6) + 5).toNatClampNeg 0)) else (1, 0, (fw, fh, fs, fc, fl, fe, fi, ft, fo, fa, an, af)))) else (if 4096 ≤ fi then (1, 0, (fw, fh, fs, fc, fl, fe, fi, ft, fo, fa, an, af)) else (if ((tb_across fs (if a1 < 0 then 0 else a1) (if fw < a3 then fw else a3)) * (tb_across fs (if a2 < 0 then 0 else a2) (if fh < a4 then fh else a4))) ≤ (fe - ft) then (0, (fi + 1) - 1, (fw, fh, fs, fc, fl, fe, fi + 1, ft + ((tb_across fs (if a1 < 0 then 0 else a1) (if fw < a3 then fw else a3)) * (tb_across fs (if a2 < 0 then 0 else a2) (if fh < a4 then fh else a4))), fo, fa, tb_rn fi an, upd (upd (upd (upd (upd (upd (tb_rf fi an af) ((fi * 6) + 0).toNatClampNeg (if a1 < 0 then 0 else a1)) ((fi * 6) + 1).toNatClampNeg (if a2 < 0 then 0 else a2)) ((fi * 6) + 2).toNatClampNeg (if fw < a3 then fw else a3)) ((fi * 6) + 3).toNatClampNeg (if fh < a4 then fh else a4)) ((fi * 6) + 4).toNatClampNeg a5) ((fi * 6) + 5).toNatClampNeg ((tb_across fs (if a1 < 0 then 0 else a1) (if fw < a3 then fw else a3)) * (tb_across fs (if a2 < 0 then 0 else a2) (if fh < a4 then fh else a4))))) else (1, 0, (fw, fh, fs, fc, fl, fe, fi, ft, fo, fa, an, af))))))
set_option maxHeartbeats 4000000 in
set_option maxRecDepth 100000 in
theorem mtX0_put (l : Launch) (hl9 : l.stackTraces = false) (dC : Nat → ClassId) (dI : Nat → Nat → Nat) (h0 q1 : Nat) (cA : ClassId) (fw fh fs fc fl fe fi ft fo fa : Int32) (an : Nat) (af : Nat → Int32) (sz : Nat) (a1 a2 a3 a4 a5 : Int32) (N : Nat) (hN : fi = nI N) (hNb : N * 6 ≤ an) (hN5 : N ≤ 511) (han0 : 6 ≤ an) (han : an ≤ 3072) : vx_Met l yX0_put wsX0_put ({ frames := 6, cells := 1, slots := 6144, locals := 91 }) (va_Pc [.ref h0, .int a1, .int a2, .int a3, .int a4, .int a5] (zz_P (dC, dI) vwCl [(h0, .inr (0, [.int fw, .int fh, .int fs, .int fc, .int fl, .int fe, .ref q1, .int fi, .int ft, .int fo, .int fa])), (q1, .inl (cA, an, .inl af))] [(cA, .int)] sz)) (va_Qi (fun (r : Int32) (u : TBA) => (0, r, u) = tb_put fw fh fs fc fl fe fi ft fo fa an af a1 a2 a3 a4 a5) (tbAt (dC, dI) (va_A [(h0, .inr (0, [.int fw, .int fh, .int fs, .int fc, .int fl, .int fe, .ref q1, .int fi, .int ft, .int fo, .int fa])), (q1, .inl (cA, an, .inl af))] sz) h0) (va_A [(h0, .inr (0, [.int fw, .int fh, .int fs, .int fc, .int fl, .int fe, .ref q1, .int fi, .int ft, .int fo, .int fa])), (q1, .inl (cA, an, .inl af))] sz)) (vx_X (fun (u : Nat × TBA) => (u.1, (0 : Int32), u.2) = tb_put fw fh fs fc fl fe fi ft fo fa an af a1 a2 a3 a4 a5) (fun E u t => E = tb_exs u.1 ∧ tbAt (dC, dI) (va_A [(h0, .inr (0, [.int fw, .int fh, .int fs, .int fc, .int fl, .int fe, .ref q1, .int fi, .int ft, .int fo, .int fa])), (q1, .inl (cA, an, .inl af))] sz) h0 u.2 t) (va_A [(h0, .inr (0, [.int fw, .int fh, .int fs, .int fc, .int fl, .int fe, .ref q1, .int fi, .int ft, .int fo, .int fa])), (q1, .inl (cA, an, .inl af))] sz)) 1 6144 (va_A [(h0, .inr (0, [.int fw, .int fh, .int fs, .int fc, .int fl, .int fe, .ref q1, .int fi, .int ft, .int fo, .int fa])), (q1, .inl (cA, an, .inl af))] sz) := by
  refine vx_ofW (cc := cX0_put) (maxL := 13) (ret := (some .int)) (by decide) rfl ?_
  intro p e s m args below meth c s₁ B hml hEx hv
  obtain ⟨rfl, ⟨hsz, hP, hK, hD0⟩, hZ⟩ := hv
  have hx := B.exec
  have hb := B.bytes
  have hr := B.returns
  have hts : ∀ w ∈ gb, w.before _ s = true := fun w h => atoms_spec (ws := wsX0_put) B.pre w (List.mem_cons_of_mem _ h)
  have hown : s.vm.findClass "TileBins" = some m.cls := findClass_of_methodNamed B.named
  have hlocks := B.notSynchronized
  subst hsz
  have hD := hD0.self (sz := s.heap.size)
  generalize hAe : va_A [(h0, .inr (0, [.int fw, .int fh, .int fs, .int fc, .int fl, .int fe, .ref q1, .int fi, .int ft, .int fo, .int fa])), (q1, .inl (cA, an, .inl af))] s.heap.size = A at hD hZ ⊢
  have hA : ∀ q : Nat, s.heap.size ≤ q → A q := fun q h => by rw [← hAe]; exact Or.inr h
  have hS : va_S A s.heap s.heap [] := va_S.rf
  have hP : va_P (dC, dI) vwCl [(h0, .inr (0, [.int fw, .int fh, .int fs, .int fc, .int fl, .int fe, .ref q1, .int fi, .int ft, .int fo, .int fa])), (q1, .inl (cA, an, .inl af))] s.heap := hP
  have hl := lv_entry ([.ref h0, .int a1, .int a2, .int a3, .int a4, .int a5]) (n := 13) (Nat.le_of_ble_eq_true rfl)
  rw [lg_entry_eq]
  generalize (lg_sl ([.ref h0, .int a1, .int a2, .int a3, .int a4, .int a5]) ++ List.replicate (13 - (lg_sl ([.ref h0, .int a1, .int a2, .int a3, .int a4, .int a5])).length) Slot.unset).toArray = ls at hl ⊢
  have hl : lv_has ls 13 [(0, .ref h0), (1, .int a1), (2, .int a2), (3, .int a3), (4, .int a4), (5, .int a5)] := hl
  refine lv_iload_n hx hb dX0_put_0 rfl (lv_at hl 1 rfl) ?_
  refine lv_iconst (v := 0) hx hb dX0_put_1 (by first | rfl | decide) ?_
  refine va_mmax hx hb (hml.trans hl.1.symm) hown (hts _ kw_188) (hts _ kw_189) (hts _ kw_28) (hts _ kw_mmax) (Nat.le_of_ble_eq_true rfl) (Nat.le_of_ble_eq_true rfl) (Nat.le_of_ble_eq_true rfl) (Nat.le_of_ble_eq_true rfl) dX0_put_2 ?_
  refine lv_istore (lv' := [(6, .int (if a1 < 0 then 0 else a1)), (0, .ref h0), (1, .int a1), (2, .int a2), (3, .int a3), (4, .int a4), (5, .int a5)]) hx hb dX0_put_5 hl (by decide) rfl (fun ls hl => ?_)
  refine lv_iload_n hx hb dX0_put_7 rfl (lv_at hl 3 rfl) ?_
  refine lv_iconst (v := 0) hx hb dX0_put_8 (by first | rfl | decide) ?_
  refine va_mmax hx hb (hml.trans hl.1.symm) hown (hts _ kw_188) (hts _ kw_189) (hts _ kw_28) (hts _ kw_mmax) (Nat.le_of_ble_eq_true rfl) (Nat.le_of_ble_eq_true rfl) (Nat.le_of_ble_eq_true rfl) (Nat.le_of_ble_eq_true rfl) dX0_put_9 ?_
  refine lv_istore (lv' := [(7, .int (if a2 < 0 then 0 else a2)), (6, .int (if a1 < 0 then 0 else a1)), (0, .ref h0), (1, .int a1), (2, .int a2), (3, .int a3), (4, .int a4), (5, .int a5)]) hx hb dX0_put_12 hl (by decide) rfl (fun ls hl => ?_)
  refine lv_iload_n hx hb dX0_put_14 rfl (lv_at hl 5 rfl) ?_
  refine lv_aload_n hx hb dX0_put_15 rfl (lv_at hl 2 rfl) ?_
  refine va_get (D := (dC, dI)) (ci := 0) (v := .int fw) (C := "TileBins") (T := TX0) (N := 11) hx hb hts inX0 hown hK hP 0 rfl rfl 0 (by decide) (hts _ kw_53) (fun _ h9 => h9) rfl dX0_put_16 ?_
  refine va_mmin hx hb (hml.trans hl.1.symm) hown (hts _ kw_191) (hts _ kw_192) (hts _ kw_28) (hts _ kw_mmin) (Nat.le_of_ble_eq_true rfl) (Nat.le_of_ble_eq_true rfl) (Nat.le_of_ble_eq_true rfl) (Nat.le_of_ble_eq_true rfl) dX0_put_19 ?_
  refine lv_istore (lv' := [(8, .int (if fw < a3 then fw else a3)), (7, .int (if a2 < 0 then 0 else a2)), (6, .int (if a1 < 0 then 0 else a1)), (0, .ref h0), (1, .int a1), (2, .int a2), (3, .int a3), (4, .int a4), (5, .int a5)]) hx hb dX0_put_22 hl (by decide) rfl (fun ls hl => ?_)
  refine lv_iload hx hb dX0_put_24 (lv_at hl 7 rfl) ?_
  refine lv_aload_n hx hb dX0_put_26 rfl (lv_at hl 3 rfl) ?_
  refine va_get (D := (dC, dI)) (ci := 0) (v := .int fh) (C := "TileBins") (T := TX0) (N := 11) hx hb hts inX0 hown hK hP 0 rfl rfl 1 (by decide) (hts _ kw_54) (fun _ h9 => h9) rfl dX0_put_27 ?_
  refine va_mmin hx hb (hml.trans hl.1.symm) hown (hts _ kw_191) (hts _ kw_192) (hts _ kw_28) (hts _ kw_mmin) (Nat.le_of_ble_eq_true rfl) (Nat.le_of_ble_eq_true rfl) (Nat.le_of_ble_eq_true rfl) (Nat.le_of_ble_eq_true rfl) dX0_put_30 ?_
  refine lv_istore (lv' := [(9, .int (if fh < a4 then fh else a4)), (8, .int (if fw < a3 then fw else a3)), (7, .int (if a2 < 0 then 0 else a2)), (6, .int (if a1 < 0 then 0 else a1)), (0, .ref h0), (1, .int a1), (2, .int a2), (3, .int a3), (4, .int a4), (5, .int a5)]) hx hb dX0_put_33 hl (by decide) rfl (fun ls hl => ?_)
  refine lv_iload hx hb dX0_put_35 (lv_at hl 3 rfl) ?_
  refine lv_iload hx hb dX0_put_37 (lv_at hl 1 rfl) ?_
  refine lv_icmp_ge (tgt := 53) hx hb dX0_put_39 (by decide) (fun c_1 => ?_) (fun c_1 => ?_)
  · refine lv_iconst (v := 0) hx hb dX0_put_53 (by first | rfl | decide) ?_
    refine lv_istore (lv' := [(10, .int 0), (9, .int (if fh < a4 then fh else a4)), (8, .int (if fw < a3 then fw else a3)), (7, .int (if a2 < 0 then 0 else a2)), (6, .int (if a1 < 0 then 0 else a1)), (0, .ref h0), (1, .int a1), (2, .int a2), (3, .int a3), (4, .int a4), (5, .int a5)]) hx hb dX0_put_54 hl (by decide) rfl (fun ls hl => ?_)
    refine lv_iload hx hb dX0_put_56 (lv_at hl 0 rfl) ?_
    refine lv_if_eq (tgt := 81) hx hb dX0_put_58 (by decide) (fun _ => ?_) (fun c_2 => absurd (by decide) c_2)
    refine lv_iconst (v := 0) hx hb dX0_put_81 (by first | rfl | decide) ?_
    refine lv_istore (lv' := [(11, .int 0), (10, .int 0), (9, .int (if fh < a4 then fh else a4)), (8, .int (if fw < a3 then fw else a3)), (7, .int (if a2 < 0 then 0 else a2)), (6, .int (if a1 < 0 then 0 else a1)), (0, .ref h0), (1, .int a1), (2, .int a2), (3, .int a3), (4, .int a4), (5, .int a5)]) hx hb dX0_put_82 hl (by decide) rfl (fun ls hl => ?_)
    refine lv_aload_n hx hb dX0_put_84 rfl (lv_at hl 6 rfl) ?_
    refine va_get (D := (dC, dI)) (ci := 0) (v := .int fi) (C := "TileBins") (T := TX0) (N := 11) hx hb hts inX0 hown hK hP 0 rfl rfl 7 (by decide) (hts _ kw_60) (fun _ h9 => h9) rfl dX0_put_85 ?_
    refine lv_sipush (v := 4096) hx hb dX0_put_88 (by first | rfl | decide) ?_
    refine lv_icmp_ge (tgt := 108) hx hb dX0_put_91 (by decide) (fun c_3 => ?_) (fun c_3 => ?_)
    · obtain ⟨sa_4, hsa_5⟩ := hZ.str (70, "the field is full") (by decide +kernel)
      exact vx_throwS (rest := []) (mc := 1) (ms := 6144) hx hb hl9 (own := "TileBins") (cls := "java/lang/IllegalStateException") (text := "the field is full") (names := ["java/lang/RuntimeException", "java/lang/Exception"]) hown (by decide +kernel) (by decide +kernel) (hts _ kw_194) (hts _ kw_29) hsa_5 (vx_hat (fun w hw => hts w (hx_Sa w hw)) hx_Sb hZ.bad) hx_Sc hZ.u hZ.n hS (hl.1.trans hml.symm) dX0_put_108 dX0_put_111 dX0_put_112 dX0_put_114 dX0_put_117 (fun x hx => (hEx x hx).elim) (Nat.le_of_ble_eq_true rfl) (Nat.le_of_ble_eq_true rfl) (Nat.le_of_ble_eq_true rfl) (Nat.le_of_ble_eq_true rfl) hlocks (fun t ha hz hk => ⟨(1, (fw, fh, fs, fc, fl, fe, fi, ft, fo, fa, an, af)), (show ((1 : Nat), (0 : Int32), ((fw, fh, fs, fc, fl, fe, fi, ft, fo, fa, an, af) : TBA)) = tb_put fw fh fs fc fl fe fi ft fo fa an af a1 a2 a3 a4 a5 by unfold tb_put; rw [if_pos c_1, if_pos c_3]), ⟨rfl, q1, cA, ro_kept hP hk, va_K.moved ha hK, hD⟩, th_F hS hz hk⟩) hS.2.2 (Nat.le_of_ble_eq_true rfl) (Nat.le_of_ble_eq_true rfl)
    · refine lv_iload hx hb dX0_put_94 (lv_at hl 0 rfl) ?_
      refine lv_aload_n hx hb dX0_put_96 rfl (lv_at hl 6 rfl) ?_
      refine va_get (D := (dC, dI)) (ci := 0) (v := .int fe) (C := "TileBins") (T := TX0) (N := 11) hx hb hts inX0 hown hK hP 0 rfl rfl 5 (by decide) (hts _ kw_58) (fun _ h9 => h9) rfl dX0_put_97 ?_
      refine lv_aload_n hx hb dX0_put_100 rfl (lv_at hl 6 rfl) ?_
      refine va_get (D := (dC, dI)) (ci := 0) (v := .int ft) (C := "TileBins") (T := TX0) (N := 11) hx hb hts inX0 hown hK hP 0 rfl rfl 8 (by decide) (hts _ kw_61) (fun _ h9 => h9) rfl dX0_put_101 ?_
      refine lv_isub hx hb dX0_put_104 ?_
      refine lv_icmp_le (tgt := 118) hx hb dX0_put_105 (by decide) (fun c_6 => ?_) (fun c_6 => ?_)
      · refine lv_aload_n hx hb dX0_put_118 rfl (lv_at hl 6 rfl) ?_
        have hPc := hP.sub (ws' := [(h0, .inr (0, [.int fw, .int fh, .int fs, .int fc, .int fl, .int fe, .ref q1, .int fi, .int ft, .int fo, .int fa])), (q1, .inl (cA, an, .inl af))]) [0, 1] rfl
        have hDc := hD.sub (ws' := [(h0, .inr (0, [.int fw, .int fh, .int fs, .int fc, .int fl, .int fe, .ref q1, .int fi, .int ft, .int fo, .int fa])), (q1, .inl (cA, an, .inl af))]) [0, 1] (by decide) rfl
        have hKc := hK.sub (tys' := [(cA, .int)]) [0] rfl
        have hFc := va_free (wc := [(h0, .inr (0, [.int fw, .int fh, .int fs, .int fc, .int fl, .int fe, .ref q1, .int fi, .int ft, .int fo, .int fa])), (q1, .inl (cA, an, .inl af))]) hD hS hA [0, 1] rfl
        refine va_callv (va_runV (As := []) (rest := []) ⟨hx, hb, hml, hown, hts⟩ (mtX0_makeRoom l dC dI h0 q1 cA fw fh fs fc fl fe fi ft fo fa an af s.heap.size  (by omega) (fun _ => by omega)) (cwV 0 hts (gb_v kw_210 kw_212 kw_5 kw_22 kw_213) rfl rfl rfl (by decide +kernel) ⟨Nat.le_of_ble_eq_true rfl, Nat.le_of_ble_eq_true rfl⟩) ⟨mu_P.blind, va_recv hKc hPc (ci := 0) (q0 := 0) rfl rfl, mu_P.at hPc hKc hDc⟩ rfl rfl hl.1 rfl (lv_room (Nat.le_of_ble_eq_true rfl)) dX0_put_119 ⟨Nat.le_of_ble_eq_true rfl, Nat.le_of_ble_eq_true rfl⟩) hS (fun q _ h => hFc q h) hFc (fun u t H1 locs ht hvm hw hB hz1 hk1 hS => ?_)
        have hw : u = tb_room fw fh fs fc fl fe fi ft fo fa an af := hw
        subst hw
        obtain ⟨q1_7, cA_8, hP1, hK1, hD1⟩ := hB
        rw [ht] at hP1
        have hK1 := va_K.moved hvm.symm hK1
        obtain ⟨hP, hD⟩ := va_join (wr := []) (w1 := [(h0, .inr (0, [.int fw, .int fh, .int fs, .int fc, .int fl, .int fe, .ref q1_7, .int fi, .int ft, .int fo, .int fa])), (q1_7, .inl (cA_8, tb_rn fi an, .inl (tb_rf fi an af)))]) hP hD [0, 1] [] rfl rfl (by decide) (by decide) hk1 hFc hP1 hD1
        have hK := (hK.sub (tys' := []) [] rfl).app hK1
        generalize H1 = H at hP hS ⊢
        have hP : va_P (dC, dI) vwCl [(h0, .inr (0, [.int fw, .int fh, .int fs, .int fc, .int fl, .int fe, .ref q1_7, .int fi, .int ft, .int fo, .int fa])), (q1_7, .inl (cA_8, tb_rn fi an, .inl (tb_rf fi an af)))] H := hP
        have hD : va_D A [(h0, .inr (0, [.int fw, .int fh, .int fs, .int fc, .int fl, .int fe, .ref q1_7, .int fi, .int ft, .int fo, .int fa])), (q1_7, .inl (cA_8, tb_rn fi an, .inl (tb_rf fi an af)))] := hD
        have hK : va_K (dC, dI) vwCl [(cA_8, .int)] s := hK
        refine lv_aload_n hx hb dX0_put_122 rfl (lv_at hl 6 rfl) ?_
        refine va_get (D := (dC, dI)) (ci := 0) (v := .int fi) (C := "TileBins") (T := TX0) (N := 11) hx hb hts inX0 hown hK hP 0 rfl rfl 7 (by decide) (hts _ kw_60) (fun _ h9 => h9) rfl dX0_put_123 ?_
        refine lv_bipush (v := 6) hx hb dX0_put_126 (by first | rfl | decide) ?_
        refine lv_imul hx hb dX0_put_128 ?_
        refine lv_istore (lv' := [(12, .int (fi * 6)), (11, .int 0), (10, .int 0), (9, .int (if fh < a4 then fh else a4)), (8, .int (if fw < a3 then fw else a3)), (7, .int (if a2 < 0 then 0 else a2)), (6, .int (if a1 < 0 then 0 else a1)), (0, .ref h0), (1, .int a1), (2, .int a2), (3, .int a3), (4, .int a4), (5, .int a5)]) hx hb dX0_put_129 hl (by decide) rfl (fun ls hl => ?_)
        refine lv_aload_n hx hb dX0_put_131 rfl (lv_at hl 7 rfl) ?_
        refine va_get (D := (dC, dI)) (ci := 0) (v := .ref q1_7) (C := "TileBins") (T := TX0) (N := 11) hx hb hts inX0 hown hK hP 0 rfl rfl 6 (by decide) (hts _ kw_59) (fun _ h9 => h9) rfl dX0_put_132 ?_
        refine lv_iload hx hb dX0_put_135 (lv_at hl 0 rfl) ?_
        refine lv_iconst (v := 0) hx hb dX0_put_137 (by first | rfl | decide) ?_
        refine lv_iadd hx hb dX0_put_138 ?_
        refine lv_iload hx hb dX0_put_139 (lv_at hl 2 rfl) ?_
        refine lv_if_eq (tgt := 149) hx hb dX0_put_141 (by decide) (fun _ => ?_) (fun c_9 => absurd (by decide) c_9)
        refine lv_iconst (v := 0) hx hb dX0_put_149 (by first | rfl | decide) ?_
        refine va_iast hx hb hK hP hD hS 1 0 rfl rfl (lm_ix (k := 0) hN (by decide) (by decide) (lm_rn hN hNb hN5 han0 han).1 (lm_rn hN hNb hN5 han0 han).2) dX0_put_150 (fun H locs hP hD hS => ?_)
        have hP : va_P (dC, dI) vwCl [(h0, .inr (0, [.int fw, .int fh, .int fs, .int fc, .int fl, .int fe, .ref q1_7, .int fi, .int ft, .int fo, .int fa])), (q1_7, .inl (cA_8, tb_rn fi an, .inl (upd (tb_rf fi an af) ((fi * 6) + 0).toNatClampNeg 0)))] H := hP
        have hD : va_D A [(h0, .inr (0, [.int fw, .int fh, .int fs, .int fc, .int fl, .int fe, .ref q1_7, .int fi, .int ft, .int fo, .int fa])), (q1_7, .inl (cA_8, tb_rn fi an, .inl (upd (tb_rf fi an af) ((fi * 6) + 0).toNatClampNeg 0)))] := hD
        refine lv_aload_n hx hb dX0_put_151 rfl (lv_at hl 7 rfl) ?_
        refine va_get (D := (dC, dI)) (ci := 0) (v := .ref q1_7) (C := "TileBins") (T := TX0) (N := 11) hx hb hts inX0 hown hK hP 0 rfl rfl 6 (by decide) (hts _ kw_59) (fun _ h9 => h9) rfl dX0_put_152 ?_
        refine lv_iload hx hb dX0_put_155 (lv_at hl 0 rfl) ?_
        refine lv_iconst (v := 1) hx hb dX0_put_157 (by first | rfl | decide) ?_
        refine lv_iadd hx hb dX0_put_158 ?_
        refine lv_iload hx hb dX0_put_159 (lv_at hl 2 rfl) ?_
        refine lv_if_eq (tgt := 169) hx hb dX0_put_161 (by decide) (fun _ => ?_) (fun c_10 => absurd (by decide) c_10)
        refine lv_iconst (v := 0) hx hb dX0_put_169 (by first | rfl | decide) ?_
        refine va_iast hx hb hK hP hD hS 1 0 rfl rfl (lm_ix (k := 1) hN (by decide) (by decide) (lm_rn hN hNb hN5 han0 han).1 (lm_rn hN hNb hN5 han0 han).2) dX0_put_170 (fun H locs hP hD hS => ?_)
        have hP : va_P (dC, dI) vwCl [(h0, .inr (0, [.int fw, .int fh, .int fs, .int fc, .int fl, .int fe, .ref q1_7, .int fi, .int ft, .int fo, .int fa])), (q1_7, .inl (cA_8, tb_rn fi an, .inl (upd (upd (tb_rf fi an af) ((fi * 6) + 0).toNatClampNeg 0) ((fi * 6) + 1).toNatClampNeg 0)))] H := hP
        have hD : va_D A [(h0, .inr (0, [.int fw, .int fh, .int fs, .int fc, .int fl, .int fe, .ref q1_7, .int fi, .int ft, .int fo, .int fa])), (q1_7, .inl (cA_8, tb_rn fi an, .inl (upd (upd (tb_rf fi an af) ((fi * 6) + 0).toNatClampNeg 0) ((fi * 6) + 1).toNatClampNeg 0)))] := hD
        refine lv_aload_n hx hb dX0_put_171 rfl (lv_at hl 7 rfl) ?_
        refine va_get (D := (dC, dI)) (ci := 0) (v := .ref q1_7) (C := "TileBins") (T := TX0) (N := 11) hx hb hts inX0 hown hK hP 0 rfl rfl 6 (by decide) (hts _ kw_59) (fun _ h9 => h9) rfl dX0_put_172 ?_
        refine lv_iload hx hb dX0_put_175 (lv_at hl 0 rfl) ?_
        refine lv_iconst (v := 2) hx hb dX0_put_177 (by first | rfl | decide) ?_
        refine lv_iadd hx hb dX0_put_178 ?_
        refine lv_iload hx hb dX0_put_179 (lv_at hl 2 rfl) ?_
        refine lv_if_eq (tgt := 189) hx hb dX0_put_181 (by decide) (fun _ => ?_) (fun c_11 => absurd (by decide) c_11)
        refine lv_iconst (v := 0) hx hb dX0_put_189 (by first | rfl | decide) ?_
        refine va_iast hx hb hK hP hD hS 1 0 rfl rfl (lm_ix (k := 2) hN (by decide) (by decide) (lm_rn hN hNb hN5 han0 han).1 (lm_rn hN hNb hN5 han0 han).2) dX0_put_190 (fun H locs hP hD hS => ?_)
        have hP : va_P (dC, dI) vwCl [(h0, .inr (0, [.int fw, .int fh, .int fs, .int fc, .int fl, .int fe, .ref q1_7, .int fi, .int ft, .int fo, .int fa])), (q1_7, .inl (cA_8, tb_rn fi an, .inl (upd (upd (upd (tb_rf fi an af) ((fi * 6) + 0).toNatClampNeg 0) ((fi * 6) + 1).toNatClampNeg 0) ((fi * 6) + 2).toNatClampNeg 0)))] H := hP
        have hD : va_D A [(h0, .inr (0, [.int fw, .int fh, .int fs, .int fc, .int fl, .int fe, .ref q1_7, .int fi, .int ft, .int fo, .int fa])), (q1_7, .inl (cA_8, tb_rn fi an, .inl (upd (upd (upd (tb_rf fi an af) ((fi * 6) + 0).toNatClampNeg 0) ((fi * 6) + 1).toNatClampNeg 0) ((fi * 6) + 2).toNatClampNeg 0)))] := hD
        refine lv_aload_n hx hb dX0_put_191 rfl (lv_at hl 7 rfl) ?_
        refine va_get (D := (dC, dI)) (ci := 0) (v := .ref q1_7) (C := "TileBins") (T := TX0) (N := 11) hx hb hts inX0 hown hK hP 0 rfl rfl 6 (by decide) (hts _ kw_59) (fun _ h9 => h9) rfl dX0_put_192 ?_
        refine lv_iload hx hb dX0_put_195 (lv_at hl 0 rfl) ?_
        refine lv_iconst (v := 3) hx hb dX0_put_197 (by first | rfl | decide) ?_
        refine lv_iadd hx hb dX0_put_198 ?_
        refine lv_iload hx hb dX0_put_199 (lv_at hl 2 rfl) ?_
        refine lv_if_eq (tgt := 209) hx hb dX0_put_201 (by decide) (fun _ => ?_) (fun c_12 => absurd (by decide) c_12)
        refine lv_iconst (v := 0) hx hb dX0_put_209 (by first | rfl | decide) ?_
        refine va_iast hx hb hK hP hD hS 1 0 rfl rfl (lm_ix (k := 3) hN (by decide) (by decide) (lm_rn hN hNb hN5 han0 han).1 (lm_rn hN hNb hN5 han0 han).2) dX0_put_210 (fun H locs hP hD hS => ?_)
        have hP : va_P (dC, dI) vwCl [(h0, .inr (0, [.int fw, .int fh, .int fs, .int fc, .int fl, .int fe, .ref q1_7, .int fi, .int ft, .int fo, .int fa])), (q1_7, .inl (cA_8, tb_rn fi an, .inl (upd (upd (upd (upd (tb_rf fi an af) ((fi * 6) + 0).toNatClampNeg 0) ((fi * 6) + 1).toNatClampNeg 0) ((fi * 6) + 2).toNatClampNeg 0) ((fi * 6) + 3).toNatClampNeg 0)))] H := hP
        have hD : va_D A [(h0, .inr (0, [.int fw, .int fh, .int fs, .int fc, .int fl, .int fe, .ref q1_7, .int fi, .int ft, .int fo, .int fa])), (q1_7, .inl (cA_8, tb_rn fi an, .inl (upd (upd (upd (upd (tb_rf fi an af) ((fi * 6) + 0).toNatClampNeg 0) ((fi * 6) + 1).toNatClampNeg 0) ((fi * 6) + 2).toNatClampNeg 0) ((fi * 6) + 3).toNatClampNeg 0)))] := hD
        refine lv_aload_n hx hb dX0_put_211 rfl (lv_at hl 7 rfl) ?_
        refine va_get (D := (dC, dI)) (ci := 0) (v := .ref q1_7) (C := "TileBins") (T := TX0) (N := 11) hx hb hts inX0 hown hK hP 0 rfl rfl 6 (by decide) (hts _ kw_59) (fun _ h9 => h9) rfl dX0_put_212 ?_
        refine lv_iload hx hb dX0_put_215 (lv_at hl 0 rfl) ?_
        refine lv_iconst (v := 4) hx hb dX0_put_217 (by first | rfl | decide) ?_
        refine lv_iadd hx hb dX0_put_218 ?_
        refine lv_iload hx hb dX0_put_219 (lv_at hl 12 rfl) ?_
        refine va_iast hx hb hK hP hD hS 1 0 rfl rfl (lm_ix (k := 4) hN (by decide) (by decide) (lm_rn hN hNb hN5 han0 han).1 (lm_rn hN hNb hN5 han0 han).2) dX0_put_221 (fun H locs hP hD hS => ?_)
        have hP : va_P (dC, dI) vwCl [(h0, .inr (0, [.int fw, .int fh, .int fs, .int fc, .int fl, .int fe, .ref q1_7, .int fi, .int ft, .int fo, .int fa])), (q1_7, .inl (cA_8, tb_rn fi an, .inl (upd (upd (upd (upd (upd (tb_rf fi an af) ((fi * 6) + 0).toNatClampNeg 0) ((fi * 6) + 1).toNatClampNeg 0) ((fi * 6) + 2).toNatClampNeg 0) ((fi * 6) + 3).toNatClampNeg 0) ((fi * 6) + 4).toNatClampNeg a5)))] H := hP
        have hD : va_D A [(h0, .inr (0, [.int fw, .int fh, .int fs, .int fc, .int fl, .int fe, .ref q1_7, .int fi, .int ft, .int fo, .int fa])), (q1_7, .inl (cA_8, tb_rn fi an, .inl (upd (upd (upd (upd (upd (tb_rf fi an af) ((fi * 6) + 0).toNatClampNeg 0) ((fi * 6) + 1).toNatClampNeg 0) ((fi * 6) + 2).toNatClampNeg 0) ((fi * 6) + 3).toNatClampNeg 0) ((fi * 6) + 4).toNatClampNeg a5)))] := hD
        refine lv_aload_n hx hb dX0_put_222 rfl (lv_at hl 7 rfl) ?_
        refine va_get (D := (dC, dI)) (ci := 0) (v := .ref q1_7) (C := "TileBins") (T := TX0) (N := 11) hx hb hts inX0 hown hK hP 0 rfl rfl 6 (by decide) (hts _ kw_59) (fun _ h9 => h9) rfl dX0_put_223 ?_
        refine lv_iload hx hb dX0_put_226 (lv_at hl 0 rfl) ?_
        refine lv_iconst (v := 5) hx hb dX0_put_228 (by first | rfl | decide) ?_
        refine lv_iadd hx hb dX0_put_229 ?_
        refine lv_iload hx hb dX0_put_230 (lv_at hl 1 rfl) ?_
        refine va_iast hx hb hK hP hD hS 1 0 rfl rfl (lm_ix (k := 5) hN (by decide) (by decide) (lm_rn hN hNb hN5 han0 han).1 (lm_rn hN hNb hN5 han0 han).2) dX0_put_232 (fun H locs hP hD hS => ?_)
        have hP : va_P (dC, dI) vwCl [(h0, .inr (0, [.int fw, .int fh, .int fs, .int fc, .int fl, .int fe, .ref q1_7, .int fi, .int ft, .int fo, .int fa])), (q1_7, .inl (cA_8, tb_rn fi an, .inl (upd (upd (upd (upd (upd (upd (tb_rf fi an af) ((fi * 6) + 0).toNatClampNeg 0) ((fi * 6) + 1).toNatClampNeg 0) ((fi * 6) + 2).toNatClampNeg 0) ((fi * 6) + 3).toNatClampNeg 0) ((fi * 6) + 4).toNatClampNeg a5) ((fi * 6) + 5).toNatClampNeg 0)))] H := hP
        have hD : va_D A [(h0, .inr (0, [.int fw, .int fh, .int fs, .int fc, .int fl, .int fe, .ref q1_7, .int fi, .int ft, .int fo, .int fa])), (q1_7, .inl (cA_8, tb_rn fi an, .inl (upd (upd (upd (upd (upd (upd (tb_rf fi an af) ((fi * 6) + 0).toNatClampNeg 0) ((fi * 6) + 1).toNatClampNeg 0) ((fi * 6) + 2).toNatClampNeg 0) ((fi * 6) + 3).toNatClampNeg 0) ((fi * 6) + 4).toNatClampNeg a5) ((fi * 6) + 5).toNatClampNeg 0)))] := hD
        refine lv_aload_n hx hb dX0_put_233 rfl (lv_at hl 7 rfl) ?_
        refine lv_dup hx hb dX0_put_234 rfl ?_
        refine va_get (D := (dC, dI)) (ci := 0) (v := .int fi) (C := "TileBins") (T := TX0) (N := 11) hx hb hts inX0 hown hK hP 0 rfl rfl 7 (by decide) (hts _ kw_60) (fun _ h9 => h9) rfl dX0_put_235 ?_
        refine lv_iconst (v := 1) hx hb dX0_put_238 (by first | rfl | decide) ?_
        refine lv_iadd hx hb dX0_put_239 ?_
        refine va_put (D := (dC, dI)) (ci := 0) (v := .int (fi + 1)) (ty := .int) (C := "TileBins") (T := TX0) (N := 11) hx hb hts inX0 tyX0 tyX0_ok nmX0 hown hK hP hD hS 0 rfl rfl 7 (by decide) (hts _ kw_60) (fun _ h9 => h9) rfl (by decide +kernel) rfl rfl (Nat.le_of_ble_eq_true rfl) dX0_put_240 (fun H locs hP hD hS => ?_)
        have hP : va_P (dC, dI) vwCl [(h0, .inr (0, [.int fw, .int fh, .int fs, .int fc, .int fl, .int fe, .ref q1_7, .int (fi + 1), .int ft, .int fo, .int fa])), (q1_7, .inl (cA_8, tb_rn fi an, .inl (upd (upd (upd (upd (upd (upd (tb_rf fi an af) ((fi * 6) + 0).toNatClampNeg 0) ((fi * 6) + 1).toNatClampNeg 0) ((fi * 6) + 2).toNatClampNeg 0) ((fi * 6) + 3).toNatClampNeg 0) ((fi * 6) + 4).toNatClampNeg a5) ((fi * 6) + 5).toNatClampNeg 0)))] H := hP
        have hD : va_D A [(h0, .inr (0, [.int fw, .int fh, .int fs, .int fc, .int fl, .int fe, .ref q1_7, .int (fi + 1), .int ft, .int fo, .int fa])), (q1_7, .inl (cA_8, tb_rn fi an, .inl (upd (upd (upd (upd (upd (upd (tb_rf fi an af) ((fi * 6) + 0).toNatClampNeg 0) ((fi * 6) + 1).toNatClampNeg 0) ((fi * 6) + 2).toNatClampNeg 0) ((fi * 6) + 3).toNatClampNeg 0) ((fi * 6) + 4).toNatClampNeg a5) ((fi * 6) + 5).toNatClampNeg 0)))] := hD
        refine lv_aload_n hx hb dX0_put_243 rfl (lv_at hl 7 rfl) ?_
        refine lv_dup hx hb dX0_put_244 rfl ?_
        refine va_get (D := (dC, dI)) (ci := 0) (v := .int ft) (C := "TileBins") (T := TX0) (N := 11) hx hb hts inX0 hown hK hP 0 rfl rfl 8 (by decide) (hts _ kw_61) (fun _ h9 => h9) rfl dX0_put_245 ?_
        refine lv_iload hx hb dX0_put_248 (lv_at hl 1 rfl) ?_
        refine lv_iadd hx hb dX0_put_250 ?_
        refine va_put (D := (dC, dI)) (ci := 0) (v := .int (ft + 0)) (ty := .int) (C := "TileBins") (T := TX0) (N := 11) hx hb hts inX0 tyX0 tyX0_ok nmX0 hown hK hP hD hS 0 rfl rfl 8 (by decide) (hts _ kw_61) (fun _ h9 => h9) rfl (by decide +kernel) rfl rfl (Nat.le_of_ble_eq_true rfl) dX0_put_251 (fun H locs hP hD hS => ?_)
        have hP : va_P (dC, dI) vwCl [(h0, .inr (0, [.int fw, .int fh, .int fs, .int fc, .int fl, .int fe, .ref q1_7, .int (fi + 1), .int (ft + 0), .int fo, .int fa])), (q1_7, .inl (cA_8, tb_rn fi an, .inl (upd (upd (upd (upd (upd (upd (tb_rf fi an af) ((fi * 6) + 0).toNatClampNeg 0) ((fi * 6) + 1).toNatClampNeg 0) ((fi * 6) + 2).toNatClampNeg 0) ((fi * 6) + 3).toNatClampNeg 0) ((fi * 6) + 4).toNatClampNeg a5) ((fi * 6) + 5).toNatClampNeg 0)))] H := hP
        have hD : va_D A [(h0, .inr (0, [.int fw, .int fh, .int fs, .int fc, .int fl, .int fe, .ref q1_7, .int (fi + 1), .int (ft + 0), .int fo, .int fa])), (q1_7, .inl (cA_8, tb_rn fi an, .inl (upd (upd (upd (upd (upd (upd (tb_rf fi an af) ((fi * 6) + 0).toNatClampNeg 0) ((fi * 6) + 1).toNatClampNeg 0) ((fi * 6) + 2).toNatClampNeg 0) ((fi * 6) + 3).toNatClampNeg 0) ((fi * 6) + 4).toNatClampNeg a5) ((fi * 6) + 5).toNatClampNeg 0)))] := hD
        refine lv_aload_n hx hb dX0_put_254 rfl (lv_at hl 7 rfl) ?_
        refine va_get (D := (dC, dI)) (ci := 0) (v := .int (fi + 1)) (C := "TileBins") (T := TX0) (N := 11) hx hb hts inX0 hown hK hP 0 rfl rfl 7 (by decide) (hts _ kw_60) (fun _ h9 => h9) rfl dX0_put_255 ?_
        refine lv_iconst (v := 1) hx hb dX0_put_258 (by first | rfl | decide) ?_
        refine lv_isub hx hb dX0_put_259 ?_
        refine vx_ret ?_
        exact W.iret (v := (fi + 1) - 1) hx hb hr (fun t ht hW => ⟨⟨_, (fw, fh, fs, fc, fl, fe, fi + 1, ft + 0, fo, fa, tb_rn fi an, upd (upd (upd (upd (upd (upd (tb_rf fi an af) ((fi * 6) + 0).toNatClampNeg 0) ((fi * 6) + 1).toNatClampNeg 0) ((fi * 6) + 2).toNatClampNeg 0) ((fi * 6) + 3).toNatClampNeg 0) ((fi * 6) + 4).toNatClampNeg a5) ((fi * 6) + 5).toNatClampNeg 0), rfl, (show ((0, ((fi + 1) - 1 : Int32), (fw, fh, fs, fc, fl, fe, fi + 1, ft + 0, fo, fa, tb_rn fi an, upd (upd (upd (upd (upd (upd (tb_rf fi an af) ((fi * 6) + 0).toNatClampNeg 0) ((fi * 6) + 1).toNatClampNeg 0) ((fi * 6) + 2).toNatClampNeg 0) ((fi * 6) + 3).toNatClampNeg 0) ((fi * 6) + 4).toNatClampNeg a5) ((fi * 6) + 5).toNatClampNeg 0)) : Nat × Int32 × TBA) = tb_put fw fh fs fc fl fe fi ft fo fa an af a1 a2 a3 a4 a5 by unfold tb_put; rw [if_pos c_1, if_neg c_3, if_pos c_6]), q1_7, cA_8, by rw [ht]; exact hP, va_K.moved hW.alike hK, hD⟩, hS.F ht⟩) hS.2.2 dX0_put_260
      · obtain ⟨sa_13, hsa_14⟩ := hZ.str (70, "the field is full") (by decide +kernel)
        exact vx_throwS (rest := []) (mc := 1) (ms := 6144) hx hb hl9 (own := "TileBins") (cls := "java/lang/IllegalStateException") (text := "the field is full") (names := ["java/lang/RuntimeException", "java/lang/Exception"]) hown (by decide +kernel) (by decide +kernel) (hts _ kw_194) (hts _ kw_29) hsa_14 (vx_hat (fun w hw => hts w (hx_Sa w hw)) hx_Sb hZ.bad) hx_Sc hZ.u hZ.n hS (hl.1.trans hml.symm) dX0_put_108 dX0_put_111 dX0_put_112 dX0_put_114 dX0_put_117 (fun x hx => (hEx x hx).elim) (Nat.le_of_ble_eq_true rfl) (Nat.le_of_ble_eq_true rfl) (Nat.le_of_ble_eq_true rfl) (Nat.le_of_ble_eq_true rfl) hlocks (fun t ha hz hk => ⟨(1, (fw, fh, fs, fc, fl, fe, fi, ft, fo, fa, an, af)), (show ((1 : Nat), (0 : Int32), ((fw, fh, fs, fc, fl, fe, fi, ft, fo, fa, an, af) : TBA)) = tb_put fw fh fs fc fl fe fi ft fo fa an af a1 a2 a3 a4 a5 by unfold tb_put; rw [if_pos c_1, if_neg c_3, if_neg c_6]), ⟨rfl, q1, cA, ro_kept hP hk, va_K.moved ha hK, hD⟩, th_F hS hz hk⟩) hS.2.2 (Nat.le_of_ble_eq_true rfl) (Nat.le_of_ble_eq_true rfl)
  · refine lv_iload hx hb dX0_put_42 (lv_at hl 2 rfl) ?_
    refine lv_iload hx hb dX0_put_44 (lv_at hl 0 rfl) ?_
    refine lv_icmp_ge (tgt := 53) hx hb dX0_put_46 (by decide) (fun c_15 => ?_) (fun c_15 => ?_)
    · refine lv_iconst (v := 0) hx hb dX0_put_53 (by first | rfl | decide) ?_
      refine lv_istore (lv' := [(10, .int 0), (9, .int (if fh < a4 then fh else a4)), (8, .int (if fw < a3 then fw else a3)), (7, .int (if a2 < 0 then 0 else a2)), (6, .int (if a1 < 0 then 0 else a1)), (0, .ref h0), (1, .int a1), (2, .int a2), (3, .int a3), (4, .int a4), (5, .int a5)]) hx hb dX0_put_54 hl (by decide) rfl (fun ls hl => ?_)
      refine lv_iload hx hb dX0_put_56 (lv_at hl 0 rfl) ?_
      refine lv_if_eq (tgt := 81) hx hb dX0_put_58 (by decide) (fun _ => ?_) (fun c_16 => absurd (by decide) c_16)
      refine lv_iconst (v := 0) hx hb dX0_put_81 (by first | rfl | decide) ?_
      refine lv_istore (lv' := [(11, .int 0), (10, .int 0), (9, .int (if fh < a4 then fh else a4)), (8, .int (if fw < a3 then fw else a3)), (7, .int (if a2 < 0 then 0 else a2)), (6, .int (if a1 < 0 then 0 else a1)), (0, .ref h0), (1, .int a1), (2, .int a2), (3, .int a3), (4, .int a4), (5, .int a5)]) hx hb dX0_put_82 hl (by decide) rfl (fun ls hl => ?_)
      refine lv_aload_n hx hb dX0_put_84 rfl (lv_at hl 6 rfl) ?_
      refine va_get (D := (dC, dI)) (ci := 0) (v := .int fi) (C := "TileBins") (T := TX0) (N := 11) hx hb hts inX0 hown hK hP 0 rfl rfl 7 (by decide) (hts _ kw_60) (fun _ h9 => h9) rfl dX0_put_85 ?_
      refine lv_sipush (v := 4096) hx hb dX0_put_88 (by first | rfl | decide) ?_
      refine lv_icmp_ge (tgt := 108) hx hb dX0_put_91 (by decide) (fun c_17 => ?_) (fun c_17 => ?_)
      · obtain ⟨sa_18, hsa_19⟩ := hZ.str (70, "the field is full") (by decide +kernel)
        exact vx_throwS (rest := []) (mc := 1) (ms := 6144) hx hb hl9 (own := "TileBins") (cls := "java/lang/IllegalStateException") (text := "the field is full") (names := ["java/lang/RuntimeException", "java/lang/Exception"]) hown (by decide +kernel) (by decide +kernel) (hts _ kw_194) (hts _ kw_29) hsa_19 (vx_hat (fun w hw => hts w (hx_Sa w hw)) hx_Sb hZ.bad) hx_Sc hZ.u hZ.n hS (hl.1.trans hml.symm) dX0_put_108 dX0_put_111 dX0_put_112 dX0_put_114 dX0_put_117 (fun x hx => (hEx x hx).elim) (Nat.le_of_ble_eq_true rfl) (Nat.le_of_ble_eq_true rfl) (Nat.le_of_ble_eq_true rfl) (Nat.le_of_ble_eq_true rfl) hlocks (fun t ha hz hk => ⟨(1, (fw, fh, fs, fc, fl, fe, fi, ft, fo, fa, an, af)), (show ((1 : Nat), (0 : Int32), ((fw, fh, fs, fc, fl, fe, fi, ft, fo, fa, an, af) : TBA)) = tb_put fw fh fs fc fl fe fi ft fo fa an af a1 a2 a3 a4 a5 by unfold tb_put; rw [if_neg c_1, if_pos c_15, if_pos c_17]), ⟨rfl, q1, cA, ro_kept hP hk, va_K.moved ha hK, hD⟩, th_F hS hz hk⟩) hS.2.2 (Nat.le_of_ble_eq_true rfl) (Nat.le_of_ble_eq_true rfl)
      · refine lv_iload hx hb dX0_put_94 (lv_at hl 0 rfl) ?_
        refine lv_aload_n hx hb dX0_put_96 rfl (lv_at hl 6 rfl) ?_
        refine va_get (D := (dC, dI)) (ci := 0) (v := .int fe) (C := "TileBins") (T := TX0) (N := 11) hx hb hts inX0 hown hK hP 0 rfl rfl 5 (by decide) (hts _ kw_58) (fun _ h9 => h9) rfl dX0_put_97 ?_
        refine lv_aload_n hx hb dX0_put_100 rfl (lv_at hl 6 rfl) ?_
        refine va_get (D := (dC, dI)) (ci := 0) (v := .int ft) (C := "TileBins") (T := TX0) (N := 11) hx hb hts inX0 hown hK hP 0 rfl rfl 8 (by decide) (hts _ kw_61) (fun _ h9 => h9) rfl dX0_put_101 ?_
        refine lv_isub hx hb dX0_put_104 ?_
        refine lv_icmp_le (tgt := 118) hx hb dX0_put_105 (by decide) (fun c_20 => ?_) (fun c_20 => ?_)
        · refine lv_aload_n hx hb dX0_put_118 rfl (lv_at hl 6 rfl) ?_
          have hPc := hP.sub (ws' := [(h0, .inr (0, [.int fw, .int fh, .int fs, .int fc, .int fl, .int fe, .ref q1, .int fi, .int ft, .int fo, .int fa])), (q1, .inl (cA, an, .inl af))]) [0, 1] rfl
          have hDc := hD.sub (ws' := [(h0, .inr (0, [.int fw, .int fh, .int fs, .int fc, .int fl, .int fe, .ref q1, .int fi, .int ft, .int fo, .int fa])), (q1, .inl (cA, an, .inl af))]) [0, 1] (by decide) rfl
          have hKc := hK.sub (tys' := [(cA, .int)]) [0] rfl
          have hFc := va_free (wc := [(h0, .inr (0, [.int fw, .int fh, .int fs, .int fc, .int fl, .int fe, .ref q1, .int fi, .int ft, .int fo, .int fa])), (q1, .inl (cA, an, .inl af))]) hD hS hA [0, 1] rfl
          refine va_callv (va_runV (As := []) (rest := []) ⟨hx, hb, hml, hown, hts⟩ (mtX0_makeRoom l dC dI h0 q1 cA fw fh fs fc fl fe fi ft fo fa an af s.heap.size  (by omega) (fun _ => by omega)) (cwV 0 hts (gb_v kw_210 kw_212 kw_5 kw_22 kw_213) rfl rfl rfl (by decide +kernel) ⟨Nat.le_of_ble_eq_true rfl, Nat.le_of_ble_eq_true rfl⟩) ⟨mu_P.blind, va_recv hKc hPc (ci := 0) (q0 := 0) rfl rfl, mu_P.at hPc hKc hDc⟩ rfl rfl hl.1 rfl (lv_room (Nat.le_of_ble_eq_true rfl)) dX0_put_119 ⟨Nat.le_of_ble_eq_true rfl, Nat.le_of_ble_eq_true rfl⟩) hS (fun q _ h => hFc q h) hFc (fun u t H1 locs ht hvm hw hB hz1 hk1 hS => ?_)
          have hw : u = tb_room fw fh fs fc fl fe fi ft fo fa an af := hw
          subst hw
          obtain ⟨q1_21, cA_22, hP1, hK1, hD1⟩ := hB
          rw [ht] at hP1
          have hK1 := va_K.moved hvm.symm hK1
          obtain ⟨hP, hD⟩ := va_join (wr := []) (w1 := [(h0, .inr (0, [.int fw, .int fh, .int fs, .int fc, .int fl, .int fe, .ref q1_21, .int fi, .int ft, .int fo, .int fa])), (q1_21, .inl (cA_22, tb_rn fi an, .inl (tb_rf fi an af)))]) hP hD [0, 1] [] rfl rfl (by decide) (by decide) hk1 hFc hP1 hD1
          have hK := (hK.sub (tys' := []) [] rfl).app hK1
          generalize H1 = H at hP hS ⊢
          have hP : va_P (dC, dI) vwCl [(h0, .inr (0, [.int fw, .int fh, .int fs, .int fc, .int fl, .int fe, .ref q1_21, .int fi, .int ft, .int fo, .int fa])), (q1_21, .inl (cA_22, tb_rn fi an, .inl (tb_rf fi an af)))] H := hP
          have hD : va_D A [(h0, .inr (0, [.int fw, .int fh, .int fs, .int fc, .int fl, .int fe, .ref q1_21, .int fi, .int ft, .int fo, .int fa])), (q1_21, .inl (cA_22, tb_rn fi an, .inl (tb_rf fi an af)))] := hD
          have hK : va_K (dC, dI) vwCl [(cA_22, .int)] s := hK
          refine lv_aload_n hx hb dX0_put_122 rfl (lv_at hl 6 rfl) ?_
          refine va_get (D := (dC, dI)) (ci := 0) (v := .int fi) (C := "TileBins") (T := TX0) (N := 11) hx hb hts inX0 hown hK hP 0 rfl rfl 7 (by decide) (hts _ kw_60) (fun _ h9 => h9) rfl dX0_put_123 ?_
          refine lv_bipush (v := 6) hx hb dX0_put_126 (by first | rfl | decide) ?_
          refine lv_imul hx hb dX0_put_128 ?_
          refine lv_istore (lv' := [(12, .int (fi * 6)), (11, .int 0), (10, .int 0), (9, .int (if fh < a4 then fh else a4)), (8, .int (if fw < a3 then fw else a3)), (7, .int (if a2 < 0 then 0 else a2)), (6, .int (if a1 < 0 then 0 else a1)), (0, .ref h0), (1, .int a1), (2, .int a2), (3, .int a3), (4, .int a4), (5, .int a5)]) hx hb dX0_put_129 hl (by decide) rfl (fun ls hl => ?_)
          refine lv_aload_n hx hb dX0_put_131 rfl (lv_at hl 7 rfl) ?_
          refine va_get (D := (dC, dI)) (ci := 0) (v := .ref q1_21) (C := "TileBins") (T := TX0) (N := 11) hx hb hts inX0 hown hK hP 0 rfl rfl 6 (by decide) (hts _ kw_59) (fun _ h9 => h9) rfl dX0_put_132 ?_
          refine lv_iload hx hb dX0_put_135 (lv_at hl 0 rfl) ?_
          refine lv_iconst (v := 0) hx hb dX0_put_137 (by first | rfl | decide) ?_
          refine lv_iadd hx hb dX0_put_138 ?_
          refine lv_iload hx hb dX0_put_139 (lv_at hl 2 rfl) ?_
          refine lv_if_eq (tgt := 149) hx hb dX0_put_141 (by decide) (fun _ => ?_) (fun c_23 => absurd (by decide) c_23)
          refine lv_iconst (v := 0) hx hb dX0_put_149 (by first | rfl | decide) ?_
          refine va_iast hx hb hK hP hD hS 1 0 rfl rfl (lm_ix (k := 0) hN (by decide) (by decide) (lm_rn hN hNb hN5 han0 han).1 (lm_rn hN hNb hN5 han0 han).2) dX0_put_150 (fun H locs hP hD hS => ?_)
          have hP : va_P (dC, dI) vwCl [(h0, .inr (0, [.int fw, .int fh, .int fs, .int fc, .int fl, .int fe, .ref q1_21, .int fi, .int ft, .int fo, .int fa])), (q1_21, .inl (cA_22, tb_rn fi an, .inl (upd (tb_rf fi an af) ((fi * 6) + 0).toNatClampNeg 0)))] H := hP
          have hD : va_D A [(h0, .inr (0, [.int fw, .int fh, .int fs, .int fc, .int fl, .int fe, .ref q1_21, .int fi, .int ft, .int fo, .int fa])), (q1_21, .inl (cA_22, tb_rn fi an, .inl (upd (tb_rf fi an af) ((fi * 6) + 0).toNatClampNeg 0)))] := hD
          refine lv_aload_n hx hb dX0_put_151 rfl (lv_at hl 7 rfl) ?_
          refine va_get (D := (dC, dI)) (ci := 0) (v := .ref q1_21) (C := "TileBins") (T := TX0) (N := 11) hx hb hts inX0 hown hK hP 0 rfl rfl 6 (by decide) (hts _ kw_59) (fun _ h9 => h9) rfl dX0_put_152 ?_
          refine lv_iload hx hb dX0_put_155 (lv_at hl 0 rfl) ?_
          refine lv_iconst (v := 1) hx hb dX0_put_157 (by first | rfl | decide) ?_
          refine lv_iadd hx hb dX0_put_158 ?_
          refine lv_iload hx hb dX0_put_159 (lv_at hl 2 rfl) ?_
          refine lv_if_eq (tgt := 169) hx hb dX0_put_161 (by decide) (fun _ => ?_) (fun c_24 => absurd (by decide) c_24)
          refine lv_iconst (v := 0) hx hb dX0_put_169 (by first | rfl | decide) ?_
          refine va_iast hx hb hK hP hD hS 1 0 rfl rfl (lm_ix (k := 1) hN (by decide) (by decide) (lm_rn hN hNb hN5 han0 han).1 (lm_rn hN hNb hN5 han0 han).2) dX0_put_170 (fun H locs hP hD hS => ?_)
          have hP : va_P (dC, dI) vwCl [(h0, .inr (0, [.int fw, .int fh, .int fs, .int fc, .int fl, .int fe, .ref q1_21, .int fi, .int ft, .int fo, .int fa])), (q1_21, .inl (cA_22, tb_rn fi an, .inl (upd (upd (tb_rf fi an af) ((fi * 6) + 0).toNatClampNeg 0) ((fi * 6) + 1).toNatClampNeg 0)))] H := hP
          have hD : va_D A [(h0, .inr (0, [.int fw, .int fh, .int fs, .int fc, .int fl, .int fe, .ref q1_21, .int fi, .int ft, .int fo, .int fa])), (q1_21, .inl (cA_22, tb_rn fi an, .inl (upd (upd (tb_rf fi an af) ((fi * 6) + 0).toNatClampNeg 0) ((fi * 6) + 1).toNatClampNeg 0)))] := hD
          refine lv_aload_n hx hb dX0_put_171 rfl (lv_at hl 7 rfl) ?_
          refine va_get (D := (dC, dI)) (ci := 0) (v := .ref q1_21) (C := "TileBins") (T := TX0) (N := 11) hx hb hts inX0 hown hK hP 0 rfl rfl 6 (by decide) (hts _ kw_59) (fun _ h9 => h9) rfl dX0_put_172 ?_
          refine lv_iload hx hb dX0_put_175 (lv_at hl 0 rfl) ?_
          refine lv_iconst (v := 2) hx hb dX0_put_177 (by first | rfl | decide) ?_
          refine lv_iadd hx hb dX0_put_178 ?_
          refine lv_iload hx hb dX0_put_179 (lv_at hl 2 rfl) ?_
          refine lv_if_eq (tgt := 189) hx hb dX0_put_181 (by decide) (fun _ => ?_) (fun c_25 => absurd (by decide) c_25)
          refine lv_iconst (v := 0) hx hb dX0_put_189 (by first | rfl | decide) ?_
          refine va_iast hx hb hK hP hD hS 1 0 rfl rfl (lm_ix (k := 2) hN (by decide) (by decide) (lm_rn hN hNb hN5 han0 han).1 (lm_rn hN hNb hN5 han0 han).2) dX0_put_190 (fun H locs hP hD hS => ?_)
          have hP : va_P (dC, dI) vwCl [(h0, .inr (0, [.int fw, .int fh, .int fs, .int fc, .int fl, .int fe, .ref q1_21, .int fi, .int ft, .int fo, .int fa])), (q1_21, .inl (cA_22, tb_rn fi an, .inl (upd (upd (upd (tb_rf fi an af) ((fi * 6) + 0).toNatClampNeg 0) ((fi * 6) + 1).toNatClampNeg 0) ((fi * 6) + 2).toNatClampNeg 0)))] H := hP
          have hD : va_D A [(h0, .inr (0, [.int fw, .int fh, .int fs, .int fc, .int fl, .int fe, .ref q1_21, .int fi, .int ft, .int fo, .int fa])), (q1_21, .inl (cA_22, tb_rn fi an, .inl (upd (upd (upd (tb_rf fi an af) ((fi * 6) + 0).toNatClampNeg 0) ((fi * 6) + 1).toNatClampNeg 0) ((fi * 6) + 2).toNatClampNeg 0)))] := hD
          refine lv_aload_n hx hb dX0_put_191 rfl (lv_at hl 7 rfl) ?_
          refine va_get (D := (dC, dI)) (ci := 0) (v := .ref q1_21) (C := "TileBins") (T := TX0) (N := 11) hx hb hts inX0 hown hK hP 0 rfl rfl 6 (by decide) (hts _ kw_59) (fun _ h9 => h9) rfl dX0_put_192 ?_
          refine lv_iload hx hb dX0_put_195 (lv_at hl 0 rfl) ?_
          refine lv_iconst (v := 3) hx hb dX0_put_197 (by first | rfl | decide) ?_
          refine lv_iadd hx hb dX0_put_198 ?_
          refine lv_iload hx hb dX0_put_199 (lv_at hl 2 rfl) ?_
          refine lv_if_eq (tgt := 209) hx hb dX0_put_201 (by decide) (fun _ => ?_) (fun c_26 => absurd (by decide) c_26)
          refine lv_iconst (v := 0) hx hb dX0_put_209 (by first | rfl | decide) ?_
          refine va_iast hx hb hK hP hD hS 1 0 rfl rfl (lm_ix (k := 3) hN (by decide) (by decide) (lm_rn hN hNb hN5 han0 han).1 (lm_rn hN hNb hN5 han0 han).2) dX0_put_210 (fun H locs hP hD hS => ?_)
          have hP : va_P (dC, dI) vwCl [(h0, .inr (0, [.int fw, .int fh, .int fs, .int fc, .int fl, .int fe, .ref q1_21, .int fi, .int ft, .int fo, .int fa])), (q1_21, .inl (cA_22, tb_rn fi an, .inl (upd (upd (upd (upd (tb_rf fi an af) ((fi * 6) + 0).toNatClampNeg 0) ((fi * 6) + 1).toNatClampNeg 0) ((fi * 6) + 2).toNatClampNeg 0) ((fi * 6) + 3).toNatClampNeg 0)))] H := hP
          have hD : va_D A [(h0, .inr (0, [.int fw, .int fh, .int fs, .int fc, .int fl, .int fe, .ref q1_21, .int fi, .int ft, .int fo, .int fa])), (q1_21, .inl (cA_22, tb_rn fi an, .inl (upd (upd (upd (upd (tb_rf fi an af) ((fi * 6) + 0).toNatClampNeg 0) ((fi * 6) + 1).toNatClampNeg 0) ((fi * 6) + 2).toNatClampNeg 0) ((fi * 6) + 3).toNatClampNeg 0)))] := hD
          refine lv_aload_n hx hb dX0_put_211 rfl (lv_at hl 7 rfl) ?_
          refine va_get (D := (dC, dI)) (ci := 0) (v := .ref q1_21) (C := "TileBins") (T := TX0) (N := 11) hx hb hts inX0 hown hK hP 0 rfl rfl 6 (by decide) (hts _ kw_59) (fun _ h9 => h9) rfl dX0_put_212 ?_
          refine lv_iload hx hb dX0_put_215 (lv_at hl 0 rfl) ?_
          refine lv_iconst (v := 4) hx hb dX0_put_217 (by first | rfl | decide) ?_
          refine lv_iadd hx hb dX0_put_218 ?_
          refine lv_iload hx hb dX0_put_219 (lv_at hl 12 rfl) ?_
          refine va_iast hx hb hK hP hD hS 1 0 rfl rfl (lm_ix (k := 4) hN (by decide) (by decide) (lm_rn hN hNb hN5 han0 han).1 (lm_rn hN hNb hN5 han0 han).2) dX0_put_221 (fun H locs hP hD hS => ?_)
          have hP : va_P (dC, dI) vwCl [(h0, .inr (0, [.int fw, .int fh, .int fs, .int fc, .int fl, .int fe, .ref q1_21, .int fi, .int ft, .int fo, .int fa])), (q1_21, .inl (cA_22, tb_rn fi an, .inl (upd (upd (upd (upd (upd (tb_rf fi an af) ((fi * 6) + 0).toNatClampNeg 0) ((fi * 6) + 1).toNatClampNeg 0) ((fi * 6) + 2).toNatClampNeg 0) ((fi * 6) + 3).toNatClampNeg 0) ((fi * 6) + 4).toNatClampNeg a5)))] H := hP
          have hD : va_D A [(h0, .inr (0, [.int fw, .int fh, .int fs, .int fc, .int fl, .int fe, .ref q1_21, .int fi, .int ft, .int fo, .int fa])), (q1_21, .inl (cA_22, tb_rn fi an, .inl (upd (upd (upd (upd (upd (tb_rf fi an af) ((fi * 6) + 0).toNatClampNeg 0) ((fi * 6) + 1).toNatClampNeg 0) ((fi * 6) + 2).toNatClampNeg 0) ((fi * 6) + 3).toNatClampNeg 0) ((fi * 6) + 4).toNatClampNeg a5)))] := hD
          refine lv_aload_n hx hb dX0_put_222 rfl (lv_at hl 7 rfl) ?_
          refine va_get (D := (dC, dI)) (ci := 0) (v := .ref q1_21) (C := "TileBins") (T := TX0) (N := 11) hx hb hts inX0 hown hK hP 0 rfl rfl 6 (by decide) (hts _ kw_59) (fun _ h9 => h9) rfl dX0_put_223 ?_
          refine lv_iload hx hb dX0_put_226 (lv_at hl 0 rfl) ?_
          refine lv_iconst (v := 5) hx hb dX0_put_228 (by first | rfl | decide) ?_
          refine lv_iadd hx hb dX0_put_229 ?_
          refine lv_iload hx hb dX0_put_230 (lv_at hl 1 rfl) ?_
          refine va_iast hx hb hK hP hD hS 1 0 rfl rfl (lm_ix (k := 5) hN (by decide) (by decide) (lm_rn hN hNb hN5 han0 han).1 (lm_rn hN hNb hN5 han0 han).2) dX0_put_232 (fun H locs hP hD hS => ?_)
          have hP : va_P (dC, dI) vwCl [(h0, .inr (0, [.int fw, .int fh, .int fs, .int fc, .int fl, .int fe, .ref q1_21, .int fi, .int ft, .int fo, .int fa])), (q1_21, .inl (cA_22, tb_rn fi an, .inl (upd (upd (upd (upd (upd (upd (tb_rf fi an af) ((fi * 6) + 0).toNatClampNeg 0) ((fi * 6) + 1).toNatClampNeg 0) ((fi * 6) + 2).toNatClampNeg 0) ((fi * 6) + 3).toNatClampNeg 0) ((fi * 6) + 4).toNatClampNeg a5) ((fi * 6) + 5).toNatClampNeg 0)))] H := hP
          have hD : va_D A [(h0, .inr (0, [.int fw, .int fh, .int fs, .int fc, .int fl, .int fe, .ref q1_21, .int fi, .int ft, .int fo, .int fa])), (q1_21, .inl (cA_22, tb_rn fi an, .inl (upd (upd (upd (upd (upd (upd (tb_rf fi an af) ((fi * 6) + 0).toNatClampNeg 0) ((fi * 6) + 1).toNatClampNeg 0) ((fi * 6) + 2).toNatClampNeg 0) ((fi * 6) + 3).toNatClampNeg 0) ((fi * 6) + 4).toNatClampNeg a5) ((fi * 6) + 5).toNatClampNeg 0)))] := hD
          refine lv_aload_n hx hb dX0_put_233 rfl (lv_at hl 7 rfl) ?_
          refine lv_dup hx hb dX0_put_234 rfl ?_
          refine va_get (D := (dC, dI)) (ci := 0) (v := .int fi) (C := "TileBins") (T := TX0) (N := 11) hx hb hts inX0 hown hK hP 0 rfl rfl 7 (by decide) (hts _ kw_60) (fun _ h9 => h9) rfl dX0_put_235 ?_
          refine lv_iconst (v := 1) hx hb dX0_put_238 (by first | rfl | decide) ?_
          refine lv_iadd hx hb dX0_put_239 ?_
          refine va_put (D := (dC, dI)) (ci := 0) (v := .int (fi + 1)) (ty := .int) (C := "TileBins") (T := TX0) (N := 11) hx hb hts inX0 tyX0 tyX0_ok nmX0 hown hK hP hD hS 0 rfl rfl 7 (by decide) (hts _ kw_60) (fun _ h9 => h9) rfl (by decide +kernel) rfl rfl (Nat.le_of_ble_eq_true rfl) dX0_put_240 (fun H locs hP hD hS => ?_)
          have hP : va_P (dC, dI) vwCl [(h0, .inr (0, [.int fw, .int fh, .int fs, .int fc, .int fl, .int fe, .ref q1_21, .int (fi + 1), .int ft, .int fo, .int fa])), (q1_21, .inl (cA_22, tb_rn fi an, .inl (upd (upd (upd (upd (upd (upd (tb_rf fi an af) ((fi * 6) + 0).toNatClampNeg 0) ((fi * 6) + 1).toNatClampNeg 0) ((fi * 6) + 2).toNatClampNeg 0) ((fi * 6) + 3).toNatClampNeg 0) ((fi * 6) + 4).toNatClampNeg a5) ((fi * 6) + 5).toNatClampNeg 0)))] H := hP
          have hD : va_D A [(h0, .inr (0, [.int fw, .int fh, .int fs, .int fc, .int fl, .int fe, .ref q1_21, .int (fi + 1), .int ft, .int fo, .int fa])), (q1_21, .inl (cA_22, tb_rn fi an, .inl (upd (upd (upd (upd (upd (upd (tb_rf fi an af) ((fi * 6) + 0).toNatClampNeg 0) ((fi * 6) + 1).toNatClampNeg 0) ((fi * 6) + 2).toNatClampNeg 0) ((fi * 6) + 3).toNatClampNeg 0) ((fi * 6) + 4).toNatClampNeg a5) ((fi * 6) + 5).toNatClampNeg 0)))] := hD
          refine lv_aload_n hx hb dX0_put_243 rfl (lv_at hl 7 rfl) ?_
          refine lv_dup hx hb dX0_put_244 rfl ?_
          refine va_get (D := (dC, dI)) (ci := 0) (v := .int ft) (C := "TileBins") (T := TX0) (N := 11) hx hb hts inX0 hown hK hP 0 rfl rfl 8 (by decide) (hts _ kw_61) (fun _ h9 => h9) rfl dX0_put_245 ?_
          refine lv_iload hx hb dX0_put_248 (lv_at hl 1 rfl) ?_
          refine lv_iadd hx hb dX0_put_250 ?_
          refine va_put (D := (dC, dI)) (ci := 0) (v := .int (ft + 0)) (ty := .int) (C := "TileBins") (T := TX0) (N := 11) hx hb hts inX0 tyX0 tyX0_ok nmX0 hown hK hP hD hS 0 rfl rfl 8 (by decide) (hts _ kw_61) (fun _ h9 => h9) rfl (by decide +kernel) rfl rfl (Nat.le_of_ble_eq_true rfl) dX0_put_251 (fun H locs hP hD hS => ?_)
          have hP : va_P (dC, dI) vwCl [(h0, .inr (0, [.int fw, .int fh, .int fs, .int fc, .int fl, .int fe, .ref q1_21, .int (fi + 1), .int (ft + 0), .int fo, .int fa])), (q1_21, .inl (cA_22, tb_rn fi an, .inl (upd (upd (upd (upd (upd (upd (tb_rf fi an af) ((fi * 6) + 0).toNatClampNeg 0) ((fi * 6) + 1).toNatClampNeg 0) ((fi * 6) + 2).toNatClampNeg 0) ((fi * 6) + 3).toNatClampNeg 0) ((fi * 6) + 4).toNatClampNeg a5) ((fi * 6) + 5).toNatClampNeg 0)))] H := hP
          have hD : va_D A [(h0, .inr (0, [.int fw, .int fh, .int fs, .int fc, .int fl, .int fe, .ref q1_21, .int (fi + 1), .int (ft + 0), .int fo, .int fa])), (q1_21, .inl (cA_22, tb_rn fi an, .inl (upd (upd (upd (upd (upd (upd (tb_rf fi an af) ((fi * 6) + 0).toNatClampNeg 0) ((fi * 6) + 1).toNatClampNeg 0) ((fi * 6) + 2).toNatClampNeg 0) ((fi * 6) + 3).toNatClampNeg 0) ((fi * 6) + 4).toNatClampNeg a5) ((fi * 6) + 5).toNatClampNeg 0)))] := hD
          refine lv_aload_n hx hb dX0_put_254 rfl (lv_at hl 7 rfl) ?_
          refine va_get (D := (dC, dI)) (ci := 0) (v := .int (fi + 1)) (C := "TileBins") (T := TX0) (N := 11) hx hb hts inX0 hown hK hP 0 rfl rfl 7 (by decide) (hts _ kw_60) (fun _ h9 => h9) rfl dX0_put_255 ?_
          refine lv_iconst (v := 1) hx hb dX0_put_258 (by first | rfl | decide) ?_
          refine lv_isub hx hb dX0_put_259 ?_
          refine vx_ret ?_
          exact W.iret (v := (fi + 1) - 1) hx hb hr (fun t ht hW => ⟨⟨_, (fw, fh, fs, fc, fl, fe, fi + 1, ft + 0, fo, fa, tb_rn fi an, upd (upd (upd (upd (upd (upd (tb_rf fi an af) ((fi * 6) + 0).toNatClampNeg 0) ((fi * 6) + 1).toNatClampNeg 0) ((fi * 6) + 2).toNatClampNeg 0) ((fi * 6) + 3).toNatClampNeg 0) ((fi * 6) + 4).toNatClampNeg a5) ((fi * 6) + 5).toNatClampNeg 0), rfl, (show ((0, ((fi + 1) - 1 : Int32), (fw, fh, fs, fc, fl, fe, fi + 1, ft + 0, fo, fa, tb_rn fi an, upd (upd (upd (upd (upd (upd (tb_rf fi an af) ((fi * 6) + 0).toNatClampNeg 0) ((fi * 6) + 1).toNatClampNeg 0) ((fi * 6) + 2).toNatClampNeg 0) ((fi * 6) + 3).toNatClampNeg 0) ((fi * 6) + 4).toNatClampNeg a5) ((fi * 6) + 5).toNatClampNeg 0)) : Nat × Int32 × TBA) = tb_put fw fh fs fc fl fe fi ft fo fa an af a1 a2 a3 a4 a5 by unfold tb_put; rw [if_neg c_1, if_pos c_15, if_neg c_17, if_pos c_20]), q1_21, cA_22, by rw [ht]; exact hP, va_K.moved hW.alike hK, hD⟩, hS.F ht⟩) hS.2.2 dX0_put_260
        · obtain ⟨sa_27, hsa_28⟩ := hZ.str (70, "the field is full") (by decide +kernel)
          exact vx_throwS (rest := []) (mc := 1) (ms := 6144) hx hb hl9 (own := "TileBins") (cls := "java/lang/IllegalStateException") (text := "the field is full") (names := ["java/lang/RuntimeException", "java/lang/Exception"]) hown (by decide +kernel) (by decide +kernel) (hts _ kw_194) (hts _ kw_29) hsa_28 (vx_hat (fun w hw => hts w (hx_Sa w hw)) hx_Sb hZ.bad) hx_Sc hZ.u hZ.n hS (hl.1.trans hml.symm) dX0_put_108 dX0_put_111 dX0_put_112 dX0_put_114 dX0_put_117 (fun x hx => (hEx x hx).elim) (Nat.le_of_ble_eq_true rfl) (Nat.le_of_ble_eq_true rfl) (Nat.le_of_ble_eq_true rfl) (Nat.le_of_ble_eq_true rfl) hlocks (fun t ha hz hk => ⟨(1, (fw, fh, fs, fc, fl, fe, fi, ft, fo, fa, an, af)), (show ((1 : Nat), (0 : Int32), ((fw, fh, fs, fc, fl, fe, fi, ft, fo, fa, an, af) : TBA)) = tb_put fw fh fs fc fl fe fi ft fo fa an af a1 a2 a3 a4 a5 by unfold tb_put; rw [if_neg c_1, if_pos c_15, if_neg c_17, if_neg c_20]), ⟨rfl, q1, cA, ro_kept hP hk, va_K.moved ha hK, hD⟩, th_F hS hz hk⟩) hS.2.2 (Nat.le_of_ble_eq_true rfl) (Nat.le_of_ble_eq_true rfl)
    · refine lv_iconst (v := 1) hx hb dX0_put_49 (by first | rfl | decide) ?_
      refine lv_goto (tgt := 54) hx hb dX0_put_50 (by decide) ?_
      refine lv_istore (lv' := [(10, .int 1), (9, .int (if fh < a4 then fh else a4)), (8, .int (if fw < a3 then fw else a3)), (7, .int (if a2 < 0 then 0 else a2)), (6, .int (if a1 < 0 then 0 else a1)), (0, .ref h0), (1, .int a1), (2, .int a2), (3, .int a3), (4, .int a4), (5, .int a5)]) hx hb dX0_put_54 hl (by decide) rfl (fun ls hl => ?_)
      refine lv_iload hx hb dX0_put_56 (lv_at hl 0 rfl) ?_
      refine lv_if_eq (tgt := 81) hx hb dX0_put_58 (by decide) (fun c_29 => absurd c_29 (by decide)) (fun _ => ?_)
      refine lv_aload_n hx hb dX0_put_61 rfl (lv_at hl 5 rfl) ?_
      refine lv_iload hx hb dX0_put_62 (lv_at hl 4 rfl) ?_
      refine lv_iload hx hb dX0_put_64 (lv_at hl 2 rfl) ?_
      refine ro_calli (va_runV (As := [.int (if a1 < 0 then 0 else a1), .int (if fw < a3 then fw else a3)]) (rest := []) ⟨hx, hb, hml, hown, hts⟩ (mtX0_tilesAcross l dC dI h0 q1 cA fw fh fs fc fl fe fi ft fo fa an af s.heap.size (if a1 < 0 then 0 else a1) (if fw < a3 then fw else a3)) (cwV 2 hts (gb_v kw_45 kw_47 kw_1 kw_22 kw_48) rfl rfl rfl (by decide +kernel) ⟨Nat.le_of_ble_eq_true rfl, Nat.le_of_ble_eq_true rfl⟩) ⟨ro_P.blind, va_recv hK hP (ci := 0) (q0 := 0) rfl rfl, ro_P.at hP hK⟩ rfl rfl hl.1 rfl (lv_room (Nat.le_of_ble_eq_true rfl)) dX0_put_66 ⟨Nat.le_of_ble_eq_true rfl, Nat.le_of_ble_eq_true rfl⟩) hP hS hA (fun H locs hP hS hz hk => ?_)
      refine lv_aload_n hx hb dX0_put_69 rfl (lv_at hl 5 rfl) ?_
      refine lv_iload hx hb dX0_put_70 (lv_at hl 3 rfl) ?_
      refine lv_iload hx hb dX0_put_72 (lv_at hl 1 rfl) ?_
      refine ro_calli (va_runV (As := [.int (if a2 < 0 then 0 else a2), .int (if fh < a4 then fh else a4)]) (rest := [.int (tb_across fs (if a1 < 0 then 0 else a1) (if fw < a3 then fw else a3))]) ⟨hx, hb, hml, hown, hts⟩ (mtX0_tilesAcross l dC dI h0 q1 cA fw fh fs fc fl fe fi ft fo fa an af H.size (if a2 < 0 then 0 else a2) (if fh < a4 then fh else a4)) (cwV 2 hts (gb_v kw_45 kw_47 kw_1 kw_22 kw_48) rfl rfl rfl (by decide +kernel) ⟨Nat.le_of_ble_eq_true rfl, Nat.le_of_ble_eq_true rfl⟩) ⟨ro_P.blind, va_recv hK hP (ci := 0) (q0 := 0) rfl rfl, ro_P.at hP hK⟩ rfl rfl hl.1 rfl (lv_room (Nat.le_of_ble_eq_true rfl)) dX0_put_74 ⟨Nat.le_of_ble_eq_true rfl, Nat.le_of_ble_eq_true rfl⟩) hP hS hA (fun H locs hP hS hz hk => ?_)
      refine lv_imul hx hb dX0_put_77 ?_
      refine lv_goto (tgt := 82) hx hb dX0_put_78 (by decide) ?_
      refine lv_istore (lv' := [(11, .int ((tb_across fs (if a1 < 0 then 0 else a1) (if fw < a3 then fw else a3)) * (tb_across fs (if a2 < 0 then 0 else a2) (if fh < a4 then fh else a4)))), (10, .int 1), (9, .int (if fh < a4 then fh else a4)), (8, .int (if fw < a3 then fw else a3)), (7, .int (if a2 < 0 then 0 else a2)), (6, .int (if a1 < 0 then 0 else a1)), (0, .ref h0), (1, .int a1), (2, .int a2), (3, .int a3), (4, .int a4), (5, .int a5)]) hx hb dX0_put_82 hl (by decide) rfl (fun ls hl => ?_)
      refine lv_aload_n hx hb dX0_put_84 rfl (lv_at hl 6 rfl) ?_
      refine va_get (D := (dC, dI)) (ci := 0) (v := .int fi) (C := "TileBins") (T := TX0) (N := 11) hx hb hts inX0 hown hK hP 0 rfl rfl 7 (by decide) (hts _ kw_60) (fun _ h9 => h9) rfl dX0_put_85 ?_
      refine lv_sipush (v := 4096) hx hb dX0_put_88 (by first | rfl | decide) ?_
      refine lv_icmp_ge (tgt := 108) hx hb dX0_put_91 (by decide) (fun c_30 => ?_) (fun c_30 => ?_)
      · obtain ⟨sa_31, hsa_32⟩ := hZ.str (70, "the field is full") (by decide +kernel)
        exact vx_throwS (rest := []) (mc := 1) (ms := 6144) hx hb hl9 (own := "TileBins") (cls := "java/lang/IllegalStateException") (text := "the field is full") (names := ["java/lang/RuntimeException", "java/lang/Exception"]) hown (by decide +kernel) (by decide +kernel) (hts _ kw_194) (hts _ kw_29) hsa_32 (vx_hat (fun w hw => hts w (hx_Sa w hw)) hx_Sb hZ.bad) hx_Sc hZ.u hZ.n hS (hl.1.trans hml.symm) dX0_put_108 dX0_put_111 dX0_put_112 dX0_put_114 dX0_put_117 (fun x hx => (hEx x hx).elim) (Nat.le_of_ble_eq_true rfl) (Nat.le_of_ble_eq_true rfl) (Nat.le_of_ble_eq_true rfl) (Nat.le_of_ble_eq_true rfl) hlocks (fun t ha hz hk => ⟨(1, (fw, fh, fs, fc, fl, fe, fi, ft, fo, fa, an, af)), (show ((1 : Nat), (0 : Int32), ((fw, fh, fs, fc, fl, fe, fi, ft, fo, fa, an, af) : TBA)) = tb_put fw fh fs fc fl fe fi ft fo fa an af a1 a2 a3 a4 a5 by unfold tb_put; rw [if_neg c_1, if_neg c_15, if_pos c_30]), ⟨rfl, q1, cA, ro_kept hP hk, va_K.moved ha hK, hD⟩, th_F hS hz hk⟩) hS.2.2 (Nat.le_of_ble_eq_true rfl) (Nat.le_of_ble_eq_true rfl)
      · refine lv_iload hx hb dX0_put_94 (lv_at hl 0 rfl) ?_
        refine lv_aload_n hx hb dX0_put_96 rfl (lv_at hl 6 rfl) ?_
        refine va_get (D := (dC, dI)) (ci := 0) (v := .int fe) (C := "TileBins") (T := TX0) (N := 11) hx hb hts inX0 hown hK hP 0 rfl rfl 5 (by decide) (hts _ kw_58) (fun _ h9 => h9) rfl dX0_put_97 ?_
        refine lv_aload_n hx hb dX0_put_100 rfl (lv_at hl 6 rfl) ?_
        refine va_get (D := (dC, dI)) (ci := 0) (v := .int ft) (C := "TileBins") (T := TX0) (N := 11) hx hb hts inX0 hown hK hP 0 rfl rfl 8 (by decide) (hts _ kw_61) (fun _ h9 => h9) rfl dX0_put_101 ?_
        refine lv_isub hx hb dX0_put_104 ?_
        refine lv_icmp_le (tgt := 118) hx hb dX0_put_105 (by decide) (fun c_33 => ?_) (fun c_33 => ?_)
        · refine lv_aload_n hx hb dX0_put_118 rfl (lv_at hl 6 rfl) ?_
          have hPc := hP.sub (ws' := [(h0, .inr (0, [.int fw, .int fh, .int fs, .int fc, .int fl, .int fe, .ref q1, .int fi, .int ft, .int fo, .int fa])), (q1, .inl (cA, an, .inl af))]) [0, 1] rfl
          have hDc := hD.sub (ws' := [(h0, .inr (0, [.int fw, .int fh, .int fs, .int fc, .int fl, .int fe, .ref q1, .int fi, .int ft, .int fo, .int fa])), (q1, .inl (cA, an, .inl af))]) [0, 1] (by decide) rfl
          have hKc := hK.sub (tys' := [(cA, .int)]) [0] rfl
          have hFc := va_free (wc := [(h0, .inr (0, [.int fw, .int fh, .int fs, .int fc, .int fl, .int fe, .ref q1, .int fi, .int ft, .int fo, .int fa])), (q1, .inl (cA, an, .inl af))]) hD hS hA [0, 1] rfl
          refine va_callv (va_runV (As := []) (rest := []) ⟨hx, hb, hml, hown, hts⟩ (mtX0_makeRoom l dC dI h0 q1 cA fw fh fs fc fl fe fi ft fo fa an af H.size  (by omega) (fun _ => by omega)) (cwV 0 hts (gb_v kw_210 kw_212 kw_5 kw_22 kw_213) rfl rfl rfl (by decide +kernel) ⟨Nat.le_of_ble_eq_true rfl, Nat.le_of_ble_eq_true rfl⟩) ⟨mu_P.blind, va_recv hKc hPc (ci := 0) (q0 := 0) rfl rfl, mu_P.at hPc hKc hDc⟩ rfl rfl hl.1 rfl (lv_room (Nat.le_of_ble_eq_true rfl)) dX0_put_119 ⟨Nat.le_of_ble_eq_true rfl, Nat.le_of_ble_eq_true rfl⟩) hS (fun q _ h => hFc q h) hFc (fun u t H1 locs ht hvm hw hB hz1 hk1 hS => ?_)
          have hw : u = tb_room fw fh fs fc fl fe fi ft fo fa an af := hw
          subst hw
          obtain ⟨q1_34, cA_35, hP1, hK1, hD1⟩ := hB
          rw [ht] at hP1
          have hK1 := va_K.moved hvm.symm hK1
          obtain ⟨hP, hD⟩ := va_join (wr := []) (w1 := [(h0, .inr (0, [.int fw, .int fh, .int fs, .int fc, .int fl, .int fe, .ref q1_34, .int fi, .int ft, .int fo, .int fa])), (q1_34, .inl (cA_35, tb_rn fi an, .inl (tb_rf fi an af)))]) hP hD [0, 1] [] rfl rfl (by decide) (by decide) hk1 hFc hP1 hD1
          have hK := (hK.sub (tys' := []) [] rfl).app hK1
          generalize H1 = H at hP hS ⊢
          have hP : va_P (dC, dI) vwCl [(h0, .inr (0, [.int fw, .int fh, .int fs, .int fc, .int fl, .int fe, .ref q1_34, .int fi, .int ft, .int fo, .int fa])), (q1_34, .inl (cA_35, tb_rn fi an, .inl (tb_rf fi an af)))] H := hP
          have hD : va_D A [(h0, .inr (0, [.int fw, .int fh, .int fs, .int fc, .int fl, .int fe, .ref q1_34, .int fi, .int ft, .int fo, .int fa])), (q1_34, .inl (cA_35, tb_rn fi an, .inl (tb_rf fi an af)))] := hD
          have hK : va_K (dC, dI) vwCl [(cA_35, .int)] s := hK
          refine lv_aload_n hx hb dX0_put_122 rfl (lv_at hl 6 rfl) ?_
          refine va_get (D := (dC, dI)) (ci := 0) (v := .int fi) (C := "TileBins") (T := TX0) (N := 11) hx hb hts inX0 hown hK hP 0 rfl rfl 7 (by decide) (hts _ kw_60) (fun _ h9 => h9) rfl dX0_put_123 ?_
          refine lv_bipush (v := 6) hx hb dX0_put_126 (by first | rfl | decide) ?_
          refine lv_imul hx hb dX0_put_128 ?_
          refine lv_istore (lv' := [(12, .int (fi * 6)), (11, .int ((tb_across fs (if a1 < 0 then 0 else a1) (if fw < a3 then fw else a3)) * (tb_across fs (if a2 < 0 then 0 else a2) (if fh < a4 then fh else a4)))), (10, .int 1), (9, .int (if fh < a4 then fh else a4)), (8, .int (if fw < a3 then fw else a3)), (7, .int (if a2 < 0 then 0 else a2)), (6, .int (if a1 < 0 then 0 else a1)), (0, .ref h0), (1, .int a1), (2, .int a2), (3, .int a3), (4, .int a4), (5, .int a5)]) hx hb dX0_put_129 hl (by decide) rfl (fun ls hl => ?_)
          refine lv_aload_n hx hb dX0_put_131 rfl (lv_at hl 7 rfl) ?_
          refine va_get (D := (dC, dI)) (ci := 0) (v := .ref q1_34) (C := "TileBins") (T := TX0) (N := 11) hx hb hts inX0 hown hK hP 0 rfl rfl 6 (by decide) (hts _ kw_59) (fun _ h9 => h9) rfl dX0_put_132 ?_
          refine lv_iload hx hb dX0_put_135 (lv_at hl 0 rfl) ?_
          refine lv_iconst (v := 0) hx hb dX0_put_137 (by first | rfl | decide) ?_
          refine lv_iadd hx hb dX0_put_138 ?_
          refine lv_iload hx hb dX0_put_139 (lv_at hl 2 rfl) ?_
          refine lv_if_eq (tgt := 149) hx hb dX0_put_141 (by decide) (fun c_36 => absurd c_36 (by decide)) (fun _ => ?_)
          refine lv_iload hx hb dX0_put_144 (lv_at hl 6 rfl) ?_
          refine lv_goto (tgt := 150) hx hb dX0_put_146 (by decide) ?_
          refine va_iast hx hb hK hP hD hS 1 0 rfl rfl (lm_ix (k := 0) hN (by decide) (by decide) (lm_rn hN hNb hN5 han0 han).1 (lm_rn hN hNb hN5 han0 han).2) dX0_put_150 (fun H locs hP hD hS => ?_)
          have hP : va_P (dC, dI) vwCl [(h0, .inr (0, [.int fw, .int fh, .int fs, .int fc, .int fl, .int fe, .ref q1_34, .int fi, .int ft, .int fo, .int fa])), (q1_34, .inl (cA_35, tb_rn fi an, .inl (upd (tb_rf fi an af) ((fi * 6) + 0).toNatClampNeg (if a1 < 0 then 0 else a1))))] H := hP
          have hD : va_D A [(h0, .inr (0, [.int fw, .int fh, .int fs, .int fc, .int fl, .int fe, .ref q1_34, .int fi, .int ft, .int fo, .int fa])), (q1_34, .inl (cA_35, tb_rn fi an, .inl (upd (tb_rf fi an af) ((fi * 6) + 0).toNatClampNeg (if a1 < 0 then 0 else a1))))] := hD
          refine lv_aload_n hx hb dX0_put_151 rfl (lv_at hl 7 rfl) ?_
          refine va_get (D := (dC, dI)) (ci := 0) (v := .ref q1_34) (C := "TileBins") (T := TX0) (N := 11) hx hb hts inX0 hown hK hP 0 rfl rfl 6 (by decide) (hts _ kw_59) (fun _ h9 => h9) rfl dX0_put_152 ?_
          refine lv_iload hx hb dX0_put_155 (lv_at hl 0 rfl) ?_
          refine lv_iconst (v := 1) hx hb dX0_put_157 (by first | rfl | decide) ?_
          refine lv_iadd hx hb dX0_put_158 ?_
          refine lv_iload hx hb dX0_put_159 (lv_at hl 2 rfl) ?_
          refine lv_if_eq (tgt := 169) hx hb dX0_put_161 (by decide) (fun c_37 => absurd c_37 (by decide)) (fun _ => ?_)
          refine lv_iload hx hb dX0_put_164 (lv_at hl 5 rfl) ?_
          refine lv_goto (tgt := 170) hx hb dX0_put_166 (by decide) ?_
          refine va_iast hx hb hK hP hD hS 1 0 rfl rfl (lm_ix (k := 1) hN (by decide) (by decide) (lm_rn hN hNb hN5 han0 han).1 (lm_rn hN hNb hN5 han0 han).2) dX0_put_170 (fun H locs hP hD hS => ?_)
          have hP : va_P (dC, dI) vwCl [(h0, .inr (0, [.int fw, .int fh, .int fs, .int fc, .int fl, .int fe, .ref q1_34, .int fi, .int ft, .int fo, .int fa])), (q1_34, .inl (cA_35, tb_rn fi an, .inl (upd (upd (tb_rf fi an af) ((fi * 6) + 0).toNatClampNeg (if a1 < 0 then 0 else a1)) ((fi * 6) + 1).toNatClampNeg (if a2 < 0 then 0 else a2))))] H := hP
          have hD : va_D A [(h0, .inr (0, [.int fw, .int fh, .int fs, .int fc, .int fl, .int fe, .ref q1_34, .int fi, .int ft, .int fo, .int fa])), (q1_34, .inl (cA_35, tb_rn fi an, .inl (upd (upd (tb_rf fi an af) ((fi * 6) + 0).toNatClampNeg (if a1 < 0 then 0 else a1)) ((fi * 6) + 1).toNatClampNeg (if a2 < 0 then 0 else a2))))] := hD
          refine lv_aload_n hx hb dX0_put_171 rfl (lv_at hl 7 rfl) ?_
          refine va_get (D := (dC, dI)) (ci := 0) (v := .ref q1_34) (C := "TileBins") (T := TX0) (N := 11) hx hb hts inX0 hown hK hP 0 rfl rfl 6 (by decide) (hts _ kw_59) (fun _ h9 => h9) rfl dX0_put_172 ?_
          refine lv_iload hx hb dX0_put_175 (lv_at hl 0 rfl) ?_
          refine lv_iconst (v := 2) hx hb dX0_put_177 (by first | rfl | decide) ?_
          refine lv_iadd hx hb dX0_put_178 ?_
          refine lv_iload hx hb dX0_put_179 (lv_at hl 2 rfl) ?_
          refine lv_if_eq (tgt := 189) hx hb dX0_put_181 (by decide) (fun c_38 => absurd c_38 (by decide)) (fun _ => ?_)
          refine lv_iload hx hb dX0_put_184 (lv_at hl 4 rfl) ?_
          refine lv_goto (tgt := 190) hx hb dX0_put_186 (by decide) ?_
          refine va_iast hx hb hK hP hD hS 1 0 rfl rfl (lm_ix (k := 2) hN (by decide) (by decide) (lm_rn hN hNb hN5 han0 han).1 (lm_rn hN hNb hN5 han0 han).2) dX0_put_190 (fun H locs hP hD hS => ?_)
          have hP : va_P (dC, dI) vwCl [(h0, .inr (0, [.int fw, .int fh, .int fs, .int fc, .int fl, .int fe, .ref q1_34, .int fi, .int ft, .int fo, .int fa])), (q1_34, .inl (cA_35, tb_rn fi an, .inl (upd (upd (upd (tb_rf fi an af) ((fi * 6) + 0).toNatClampNeg (if a1 < 0 then 0 else a1)) ((fi * 6) + 1).toNatClampNeg (if a2 < 0 then 0 else a2)) ((fi * 6) + 2).toNatClampNeg (if fw < a3 then fw else a3))))] H := hP
          have hD : va_D A [(h0, .inr (0, [.int fw, .int fh, .int fs, .int fc, .int fl, .int fe, .ref q1_34, .int fi, .int ft, .int fo, .int fa])), (q1_34, .inl (cA_35, tb_rn fi an, .inl (upd (upd (upd (tb_rf fi an af) ((fi * 6) + 0).toNatClampNeg (if a1 < 0 then 0 else a1)) ((fi * 6) + 1).toNatClampNeg (if a2 < 0 then 0 else a2)) ((fi * 6) + 2).toNatClampNeg (if fw < a3 then fw else a3))))] := hD
          refine lv_aload_n hx hb dX0_put_191 rfl (lv_at hl 7 rfl) ?_
          refine va_get (D := (dC, dI)) (ci := 0) (v := .ref q1_34) (C := "TileBins") (T := TX0) (N := 11) hx hb hts inX0 hown hK hP 0 rfl rfl 6 (by decide) (hts _ kw_59) (fun _ h9 => h9) rfl dX0_put_192 ?_
          refine lv_iload hx hb dX0_put_195 (lv_at hl 0 rfl) ?_
          refine lv_iconst (v := 3) hx hb dX0_put_197 (by first | rfl | decide) ?_
          refine lv_iadd hx hb dX0_put_198 ?_
          refine lv_iload hx hb dX0_put_199 (lv_at hl 2 rfl) ?_
          refine lv_if_eq (tgt := 209) hx hb dX0_put_201 (by decide) (fun c_39 => absurd c_39 (by decide)) (fun _ => ?_)
          refine lv_iload hx hb dX0_put_204 (lv_at hl 3 rfl) ?_
          refine lv_goto (tgt := 210) hx hb dX0_put_206 (by decide) ?_
          refine va_iast hx hb hK hP hD hS 1 0 rfl rfl (lm_ix (k := 3) hN (by decide) (by decide) (lm_rn hN hNb hN5 han0 han).1 (lm_rn hN hNb hN5 han0 han).2) dX0_put_210 (fun H locs hP hD hS => ?_)
          have hP : va_P (dC, dI) vwCl [(h0, .inr (0, [.int fw, .int fh, .int fs, .int fc, .int fl, .int fe, .ref q1_34, .int fi, .int ft, .int fo, .int fa])), (q1_34, .inl (cA_35, tb_rn fi an, .inl (upd (upd (upd (upd (tb_rf fi an af) ((fi * 6) + 0).toNatClampNeg (if a1 < 0 then 0 else a1)) ((fi * 6) + 1).toNatClampNeg (if a2 < 0 then 0 else a2)) ((fi * 6) + 2).toNatClampNeg (if fw < a3 then fw else a3)) ((fi * 6) + 3).toNatClampNeg (if fh < a4 then fh else a4))))] H := hP
          have hD : va_D A [(h0, .inr (0, [.int fw, .int fh, .int fs, .int fc, .int fl, .int fe, .ref q1_34, .int fi, .int ft, .int fo, .int fa])), (q1_34, .inl (cA_35, tb_rn fi an, .inl (upd (upd (upd (upd (tb_rf fi an af) ((fi * 6) + 0).toNatClampNeg (if a1 < 0 then 0 else a1)) ((fi * 6) + 1).toNatClampNeg (if a2 < 0 then 0 else a2)) ((fi * 6) + 2).toNatClampNeg (if fw < a3 then fw else a3)) ((fi * 6) + 3).toNatClampNeg (if fh < a4 then fh else a4))))] := hD
          refine lv_aload_n hx hb dX0_put_211 rfl (lv_at hl 7 rfl) ?_
          refine va_get (D := (dC, dI)) (ci := 0) (v := .ref q1_34) (C := "TileBins") (T := TX0) (N := 11) hx hb hts inX0 hown hK hP 0 rfl rfl 6 (by decide) (hts _ kw_59) (fun _ h9 => h9) rfl dX0_put_212 ?_
          refine lv_iload hx hb dX0_put_215 (lv_at hl 0 rfl) ?_
          refine lv_iconst (v := 4) hx hb dX0_put_217 (by first | rfl | decide) ?_
          refine lv_iadd hx hb dX0_put_218 ?_
          refine lv_iload hx hb dX0_put_219 (lv_at hl 12 rfl) ?_
          refine va_iast hx hb hK hP hD hS 1 0 rfl rfl (lm_ix (k := 4) hN (by decide) (by decide) (lm_rn hN hNb hN5 han0 han).1 (lm_rn hN hNb hN5 han0 han).2) dX0_put_221 (fun H locs hP hD hS => ?_)
          have hP : va_P (dC, dI) vwCl [(h0, .inr (0, [.int fw, .int fh, .int fs, .int fc, .int fl, .int fe, .ref q1_34, .int fi, .int ft, .int fo, .int fa])), (q1_34, .inl (cA_35, tb_rn fi an, .inl (upd (upd (upd (upd (upd (tb_rf fi an af) ((fi * 6) + 0).toNatClampNeg (if a1 < 0 then 0 else a1)) ((fi * 6) + 1).toNatClampNeg (if a2 < 0 then 0 else a2)) ((fi * 6) + 2).toNatClampNeg (if fw < a3 then fw else a3)) ((fi * 6) + 3).toNatClampNeg (if fh < a4 then fh else a4)) ((fi * 6) + 4).toNatClampNeg a5)))] H := hP
          have hD : va_D A [(h0, .inr (0, [.int fw, .int fh, .int fs, .int fc, .int fl, .int fe, .ref q1_34, .int fi, .int ft, .int fo, .int fa])), (q1_34, .inl (cA_35, tb_rn fi an, .inl (upd (upd (upd (upd (upd (tb_rf fi an af) ((fi * 6) + 0).toNatClampNeg (if a1 < 0 then 0 else a1)) ((fi * 6) + 1).toNatClampNeg (if a2 < 0 then 0 else a2)) ((fi * 6) + 2).toNatClampNeg (if fw < a3 then fw else a3)) ((fi * 6) + 3).toNatClampNeg (if fh < a4 then fh else a4)) ((fi * 6) + 4).toNatClampNeg a5)))] := hD
          refine lv_aload_n hx hb dX0_put_222 rfl (lv_at hl 7 rfl) ?_
          refine va_get (D := (dC, dI)) (ci := 0) (v := .ref q1_34) (C := "TileBins") (T := TX0) (N := 11) hx hb hts inX0 hown hK hP 0 rfl rfl 6 (by decide) (hts _ kw_59) (fun _ h9 => h9) rfl dX0_put_223 ?_
          refine lv_iload hx hb dX0_put_226 (lv_at hl 0 rfl) ?_
          refine lv_iconst (v := 5) hx hb dX0_put_228 (by first | rfl | decide) ?_
          refine lv_iadd hx hb dX0_put_229 ?_
          refine lv_iload hx hb dX0_put_230 (lv_at hl 1 rfl) ?_
          refine va_iast hx hb hK hP hD hS 1 0 rfl rfl (lm_ix (k := 5) hN (by decide) (by decide) (lm_rn hN hNb hN5 han0 han).1 (lm_rn hN hNb hN5 han0 han).2) dX0_put_232 (fun H locs hP hD hS => ?_)
          have hP : va_P (dC, dI) vwCl [(h0, .inr (0, [.int fw, .int fh, .int fs, .int fc, .int fl, .int fe, .ref q1_34, .int fi, .int ft, .int fo, .int fa])), (q1_34, .inl (cA_35, tb_rn fi an, .inl (upd (upd (upd (upd (upd (upd (tb_rf fi an af) ((fi * 6) + 0).toNatClampNeg (if a1 < 0 then 0 else a1)) ((fi * 6) + 1).toNatClampNeg (if a2 < 0 then 0 else a2)) ((fi * 6) + 2).toNatClampNeg (if fw < a3 then fw else a3)) ((fi * 6) + 3).toNatClampNeg (if fh < a4 then fh else a4)) ((fi * 6) + 4).toNatClampNeg a5) ((fi * 6) + 5).toNatClampNeg ((tb_across fs (if a1 < 0 then 0 else a1) (if fw < a3 then fw else a3)) * (tb_across fs (if a2 < 0 then 0 else a2) (if fh < a4 then fh else a4))))))] H := hP
          have hD : va_D A [(h0, .inr (0, [.int fw, .int fh, .int fs, .int fc, .int fl, .int fe, .ref q1_34, .int fi, .int ft, .int fo, .int fa])), (q1_34, .inl (cA_35, tb_rn fi an, .inl (upd (upd (upd (upd (upd (upd (tb_rf fi an af) ((fi * 6) + 0).toNatClampNeg (if a1 < 0 then 0 else a1)) ((fi * 6) + 1).toNatClampNeg (if a2 < 0 then 0 else a2)) ((fi * 6) + 2).toNatClampNeg (if fw < a3 then fw else a3)) ((fi * 6) + 3).toNatClampNeg (if fh < a4 then fh else a4)) ((fi * 6) + 4).toNatClampNeg a5) ((fi * 6) + 5).toNatClampNeg ((tb_across fs (if a1 < 0 then 0 else a1) (if fw < a3 then fw else a3)) * (tb_across fs (if a2 < 0 then 0 else a2) (if fh < a4 then fh else a4))))))] := hD
          refine lv_aload_n hx hb dX0_put_233 rfl (lv_at hl 7 rfl) ?_
          refine lv_dup hx hb dX0_put_234 rfl ?_
          refine va_get (D := (dC, dI)) (ci := 0) (v := .int fi) (C := "TileBins") (T := TX0) (N := 11) hx hb hts inX0 hown hK hP 0 rfl rfl 7 (by decide) (hts _ kw_60) (fun _ h9 => h9) rfl dX0_put_235 ?_
          refine lv_iconst (v := 1) hx hb dX0_put_238 (by first | rfl | decide) ?_
          refine lv_iadd hx hb dX0_put_239 ?_
          refine va_put (D := (dC, dI)) (ci := 0) (v := .int (fi + 1)) (ty := .int) (C := "TileBins") (T := TX0) (N := 11) hx hb hts inX0 tyX0 tyX0_ok nmX0 hown hK hP hD hS 0 rfl rfl 7 (by decide) (hts _ kw_60) (fun _ h9 => h9) rfl (by decide +kernel) rfl rfl (Nat.le_of_ble_eq_true rfl) dX0_put_240 (fun H locs hP hD hS => ?_)
          have hP : va_P (dC, dI) vwCl [(h0, .inr (0, [.int fw, .int fh, .int fs, .int fc, .int fl, .int fe, .ref q1_34, .int (fi + 1), .int ft, .int fo, .int fa])), (q1_34, .inl (cA_35, tb_rn fi an, .inl (upd (upd (upd (upd (upd (upd (tb_rf fi an af) ((fi * 6) + 0).toNatClampNeg (if a1 < 0 then 0 else a1)) ((fi * 6) + 1).toNatClampNeg (if a2 < 0 then 0 else a2)) ((fi * 6) + 2).toNatClampNeg (if fw < a3 then fw else a3)) ((fi * 6) + 3).toNatClampNeg (if fh < a4 then fh else a4)) ((fi * 6) + 4).toNatClampNeg a5) ((fi * 6) + 5).toNatClampNeg ((tb_across fs (if a1 < 0 then 0 else a1) (if fw < a3 then fw else a3)) * (tb_across fs (if a2 < 0 then 0 else a2) (if fh < a4 then fh else a4))))))] H := hP
          have hD : va_D A [(h0, .inr (0, [.int fw, .int fh, .int fs, .int fc, .int fl, .int fe, .ref q1_34, .int (fi + 1), .int ft, .int fo, .int fa])), (q1_34, .inl (cA_35, tb_rn fi an, .inl (upd (upd (upd (upd (upd (upd (tb_rf fi an af) ((fi * 6) + 0).toNatClampNeg (if a1 < 0 then 0 else a1)) ((fi * 6) + 1).toNatClampNeg (if a2 < 0 then 0 else a2)) ((fi * 6) + 2).toNatClampNeg (if fw < a3 then fw else a3)) ((fi * 6) + 3).toNatClampNeg (if fh < a4 then fh else a4)) ((fi * 6) + 4).toNatClampNeg a5) ((fi * 6) + 5).toNatClampNeg ((tb_across fs (if a1 < 0 then 0 else a1) (if fw < a3 then fw else a3)) * (tb_across fs (if a2 < 0 then 0 else a2) (if fh < a4 then fh else a4))))))] := hD
          refine lv_aload_n hx hb dX0_put_243 rfl (lv_at hl 7 rfl) ?_
          refine lv_dup hx hb dX0_put_244 rfl ?_
          refine va_get (D := (dC, dI)) (ci := 0) (v := .int ft) (C := "TileBins") (T := TX0) (N := 11) hx hb hts inX0 hown hK hP 0 rfl rfl 8 (by decide) (hts _ kw_61) (fun _ h9 => h9) rfl dX0_put_245 ?_
          refine lv_iload hx hb dX0_put_248 (lv_at hl 1 rfl) ?_
          refine lv_iadd hx hb dX0_put_250 ?_
          refine va_put (D := (dC, dI)) (ci := 0) (v := .int (ft + ((tb_across fs (if a1 < 0 then 0 else a1) (if fw < a3 then fw else a3)) * (tb_across fs (if a2 < 0 then 0 else a2) (if fh < a4 then fh else a4))))) (ty := .int) (C := "TileBins") (T := TX0) (N := 11) hx hb hts inX0 tyX0 tyX0_ok nmX0 hown hK hP hD hS 0 rfl rfl 8 (by decide) (hts _ kw_61) (fun _ h9 => h9) rfl (by decide +kernel) rfl rfl (Nat.le_of_ble_eq_true rfl) dX0_put_251 (fun H locs hP hD hS => ?_)
          have hP : va_P (dC, dI) vwCl [(h0, .inr (0, [.int fw, .int fh, .int fs, .int fc, .int fl, .int fe, .ref q1_34, .int (fi + 1), .int (ft + ((tb_across fs (if a1 < 0 then 0 else a1) (if fw < a3 then fw else a3)) * (tb_across fs (if a2 < 0 then 0 else a2) (if fh < a4 then fh else a4)))), .int fo, .int fa])), (q1_34, .inl (cA_35, tb_rn fi an, .inl (upd (upd (upd (upd (upd (upd (tb_rf fi an af) ((fi * 6) + 0).toNatClampNeg (if a1 < 0 then 0 else a1)) ((fi * 6) + 1).toNatClampNeg (if a2 < 0 then 0 else a2)) ((fi * 6) + 2).toNatClampNeg (if fw < a3 then fw else a3)) ((fi * 6) + 3).toNatClampNeg (if fh < a4 then fh else a4)) ((fi * 6) + 4).toNatClampNeg a5) ((fi * 6) + 5).toNatClampNeg ((tb_across fs (if a1 < 0 then 0 else a1) (if fw < a3 then fw else a3)) * (tb_across fs (if a2 < 0 then 0 else a2) (if fh < a4 then fh else a4))))))] H := hP
          have hD : va_D A [(h0, .inr (0, [.int fw, .int fh, .int fs, .int fc, .int fl, .int fe, .ref q1_34, .int (fi + 1), .int (ft + ((tb_across fs (if a1 < 0 then 0 else a1) (if fw < a3 then fw else a3)) * (tb_across fs (if a2 < 0 then 0 else a2) (if fh < a4 then fh else a4)))), .int fo, .int fa])), (q1_34, .inl (cA_35, tb_rn fi an, .inl (upd (upd (upd (upd (upd (upd (tb_rf fi an af) ((fi * 6) + 0).toNatClampNeg (if a1 < 0 then 0 else a1)) ((fi * 6) + 1).toNatClampNeg (if a2 < 0 then 0 else a2)) ((fi * 6) + 2).toNatClampNeg (if fw < a3 then fw else a3)) ((fi * 6) + 3).toNatClampNeg (if fh < a4 then fh else a4)) ((fi * 6) + 4).toNatClampNeg a5) ((fi * 6) + 5).toNatClampNeg ((tb_across fs (if a1 < 0 then 0 else a1) (if fw < a3 then fw else a3)) * (tb_across fs (if a2 < 0 then 0 else a2) (if fh < a4 then fh else a4))))))] := hD
          refine lv_aload_n hx hb dX0_put_254 rfl (lv_at hl 7 rfl) ?_
          refine va_get (D := (dC, dI)) (ci := 0) (v := .int (fi + 1)) (C := "TileBins") (T := TX0) (N := 11) hx hb hts inX0 hown hK hP 0 rfl rfl 7 (by decide) (hts _ kw_60) (fun _ h9 => h9) rfl dX0_put_255 ?_
          refine lv_iconst (v := 1) hx hb dX0_put_258 (by first | rfl | decide) ?_
          refine lv_isub hx hb dX0_put_259 ?_
          refine vx_ret ?_
          exact W.iret (v := (fi + 1) - 1) hx hb hr (fun t ht hW => ⟨⟨_, (fw, fh, fs, fc, fl, fe, fi + 1, ft + ((tb_across fs (if a1 < 0 then 0 else a1) (if fw < a3 then fw else a3)) * (tb_across fs (if a2 < 0 then 0 else a2) (if fh < a4 then fh else a4))), fo, fa, tb_rn fi an, upd (upd (upd (upd (upd (upd (tb_rf fi an af) ((fi * 6) + 0).toNatClampNeg (if a1 < 0 then 0 else a1)) ((fi * 6) + 1).toNatClampNeg (if a2 < 0 then 0 else a2)) ((fi * 6) + 2).toNatClampNeg (if fw < a3 then fw else a3)) ((fi * 6) + 3).toNatClampNeg (if fh < a4 then fh else a4)) ((fi * 6) + 4).toNatClampNeg a5) ((fi * 6) + 5).toNatClampNeg ((tb_across fs (if a1 < 0 then 0 else a1) (if fw < a3 then fw else a3)) * (tb_across fs (if a2 < 0 then 0 else a2) (if fh < a4 then fh else a4)))), rfl, (show ((0, ((fi + 1) - 1 : Int32), (fw, fh, fs, fc, fl, fe, fi + 1, ft + ((tb_across fs (if a1 < 0 then 0 else a1) (if fw < a3 then fw else a3)) * (tb_across fs (if a2 < 0 then 0 else a2) (if fh < a4 then fh else a4))), fo, fa, tb_rn fi an, upd (upd (upd (upd (upd (upd (tb_rf fi an af) ((fi * 6) + 0).toNatClampNeg (if a1 < 0 then 0 else a1)) ((fi * 6) + 1).toNatClampNeg (if a2 < 0 then 0 else a2)) ((fi * 6) + 2).toNatClampNeg (if fw < a3 then fw else a3)) ((fi * 6) + 3).toNatClampNeg (if fh < a4 then fh else a4)) ((fi * 6) + 4).toNatClampNeg a5) ((fi * 6) + 5).toNatClampNeg ((tb_across fs (if a1 < 0 then 0 else a1) (if fw < a3 then fw else a3)) * (tb_across fs (if a2 < 0 then 0 else a2) (if fh < a4 then fh else a4))))) : Nat × Int32 × TBA) = tb_put fw fh fs fc fl fe fi ft fo fa an af a1 a2 a3 a4 a5 by unfold tb_put; rw [if_neg c_1, if_neg c_15, if_neg c_30, if_pos c_33]), q1_34, cA_35, by rw [ht]; exact hP, va_K.moved hW.alike hK, hD⟩, hS.F ht⟩) hS.2.2 dX0_put_260
        · obtain ⟨sa_40, hsa_41⟩ := hZ.str (70, "the field is full") (by decide +kernel)
          exact vx_throwS (rest := []) (mc := 1) (ms := 6144) hx hb hl9 (own := "TileBins") (cls := "java/lang/IllegalStateException") (text := "the field is full") (names := ["java/lang/RuntimeException", "java/lang/Exception"]) hown (by decide +kernel) (by decide +kernel) (hts _ kw_194) (hts _ kw_29) hsa_41 (vx_hat (fun w hw => hts w (hx_Sa w hw)) hx_Sb hZ.bad) hx_Sc hZ.u hZ.n hS (hl.1.trans hml.symm) dX0_put_108 dX0_put_111 dX0_put_112 dX0_put_114 dX0_put_117 (fun x hx => (hEx x hx).elim) (Nat.le_of_ble_eq_true rfl) (Nat.le_of_ble_eq_true rfl) (Nat.le_of_ble_eq_true rfl) (Nat.le_of_ble_eq_true rfl) hlocks (fun t ha hz hk => ⟨(1, (fw, fh, fs, fc, fl, fe, fi, ft, fo, fa, an, af)), (show ((1 : Nat), (0 : Int32), ((fw, fh, fs, fc, fl, fe, fi, ft, fo, fa, an, af) : TBA)) = tb_put fw fh fs fc fl fe fi ft fo fa an af a1 a2 a3 a4 a5 by unfold tb_put; rw [if_neg c_1, if_neg c_15, if_neg c_30, if_neg c_33]), ⟨rfl, q1, cA, ro_kept hP hk, va_K.moved ha hK, hD⟩, th_F hS hz hk⟩) hS.2.2 (Nat.le_of_ble_eq_true rfl) (Nat.le_of_ble_eq_true rfl)
def tb_open (fw fh fs fc fl fe fi ft fo fa : Int32) (an : Nat) (af : Nat → Int32) (a1 : Int32) : Nat × Int32 × TBA := (if (tb_isTile fc fl a1) = 0 then (1, 0, (fw, fh, fs, fc, fl, fe, fi, ft, fo, fa, an, af)) else (0, tb_many fs fc fi af a1, (fw, fh, fs, fc, fl, fe, fi, ft, a1, 0, an, af)))
set_option maxHeartbeats 4000000 in
set_option maxRecDepth 100000 in
theorem mtX0_open (l : Launch) (hl9 : l.stackTraces = false) (dC : Nat → ClassId) (dI : Nat → Nat → Nat) (h0 q1 : Nat) (cA : ClassId) (fw fh fs fc fl fe fi ft fo fa : Int32) (an : Nat) (af : Nat → Int32) (sz : Nat) (a1 : Int32) (N : Nat) (hN : fi = nI N) (hNb : N * 6 ≤ an) (han : an < 2 ^ 31) : vx_Met l yX0_open wsX0_open ({ frames := 6, cells := 1, slots := 6, locals := 91 }) (va_Pc [.ref h0, .int a1] (zz_P (dC, dI) vwCl [(h0, .inr (0, [.int fw, .int fh, .int fs, .int fc, .int fl, .int fe, .ref q1, .int fi, .int ft, .int fo, .int fa])), (q1, .inl (cA, an, .inl af))] [(cA, .int)] sz)) (va_Qi (fun (r : Int32) (u : TBA) => (0, r, u) = tb_open fw fh fs fc fl fe fi ft fo fa an af a1) (tbAt (dC, dI) (va_A [(h0, .inr (0, [.int fw, .int fh, .int fs, .int fc, .int fl, .int fe, .ref q1, .int fi, .int ft, .int fo, .int fa])), (q1, .inl (cA, an, .inl af))] sz) h0) (va_A [(h0, .inr (0, [.int fw, .int fh, .int fs, .int fc, .int fl, .int fe, .ref q1, .int fi, .int ft, .int fo, .int fa])), (q1, .inl (cA, an, .inl af))] sz)) (vx_X (fun (u : Nat × TBA) => (u.1, (0 : Int32), u.2) = tb_open fw fh fs fc fl fe fi ft fo fa an af a1) (fun E u t => E = tb_exa u.1 ∧ tbAt (dC, dI) (va_A [(h0, .inr (0, [.int fw, .int fh, .int fs, .int fc, .int fl, .int fe, .ref q1, .int fi, .int ft, .int fo, .int fa])), (q1, .inl (cA, an, .inl af))] sz) h0 u.2 t) (va_A [(h0, .inr (0, [.int fw, .int fh, .int fs, .int fc, .int fl, .int fe, .ref q1, .int fi, .int ft, .int fo, .int fa])), (q1, .inl (cA, an, .inl af))] sz)) 1 6 (va_A [(h0, .inr (0, [.int fw, .int fh, .int fs, .int fc, .int fl, .int fe, .ref q1, .int fi, .int ft, .int fo, .int fa])), (q1, .inl (cA, an, .inl af))] sz) := by
  refine vx_ofW (cc := cX0_open) (maxL := 2) (ret := (some .int)) (by decide) rfl ?_
  intro p e s m args below meth c s₁ B hml hEx hv
  obtain ⟨rfl, ⟨hsz, hP, hK, hD0⟩, hZ⟩ := hv
  have hx := B.exec
  have hb := B.bytes
  have hr := B.returns
  have hts : ∀ w ∈ gb, w.before _ s = true := fun w h => atoms_spec (ws := wsX0_open) B.pre w (List.mem_cons_of_mem _ h)
  have hown : s.vm.findClass "TileBins" = some m.cls := findClass_of_methodNamed B.named
  have hlocks := B.notSynchronized
  subst hsz
  have hD := hD0.self (sz := s.heap.size)
  generalize hAe : va_A [(h0, .inr (0, [.int fw, .int fh, .int fs, .int fc, .int fl, .int fe, .ref q1, .int fi, .int ft, .int fo, .int fa])), (q1, .inl (cA, an, .inl af))] s.heap.size = A at hD hZ ⊢
  have hA : ∀ q : Nat, s.heap.size ≤ q → A q := fun q h => by rw [← hAe]; exact Or.inr h
  have hS : va_S A s.heap s.heap [] := va_S.rf
  have hP : va_P (dC, dI) vwCl [(h0, .inr (0, [.int fw, .int fh, .int fs, .int fc, .int fl, .int fe, .ref q1, .int fi, .int ft, .int fo, .int fa])), (q1, .inl (cA, an, .inl af))] s.heap := hP
  have hl := lv_entry ([.ref h0, .int a1]) (n := 2) (Nat.le_of_ble_eq_true rfl)
  rw [lg_entry_eq]
  generalize (lg_sl ([.ref h0, .int a1]) ++ List.replicate (2 - (lg_sl ([.ref h0, .int a1])).length) Slot.unset).toArray = ls at hl ⊢
  have hl : lv_has ls 2 [(0, .ref h0), (1, .int a1)] := hl
  refine lv_aload_n hx hb dX0_open_0 rfl (lv_at hl 0 rfl) ?_
  refine lv_iload_n hx hb dX0_open_1 rfl (lv_at hl 1 rfl) ?_
  refine ro_calli (va_runV (As := [.int a1]) (rest := []) ⟨hx, hb, hml, hown, hts⟩ (mtX0_isTile l dC dI h0 q1 cA fw fh fs fc fl fe fi ft fo fa an af s.heap.size a1) (cwV 1 hts (gb_v kw_235 kw_237 kw_6 kw_22 kw_238) rfl rfl rfl (by decide +kernel) ⟨Nat.le_of_ble_eq_true rfl, Nat.le_of_ble_eq_true rfl⟩) ⟨ro_P.blind, va_recv hK hP (ci := 0) (q0 := 0) rfl rfl, ro_P.at hP hK⟩ rfl rfl hl.1 rfl (lv_room (Nat.le_of_ble_eq_true rfl)) dX0_open_2 ⟨Nat.le_of_ble_eq_true rfl, Nat.le_of_ble_eq_true rfl⟩) hP hS hA (fun H locs hP hS hz hk => ?_)
  refine lv_if_ne (tgt := 18) hx hb dX0_open_5 (by decide) (fun c_1 => ?_) (fun c_1 => ?_)
  · refine lv_aload_n hx hb dX0_open_18 rfl (lv_at hl 0 rfl) ?_
    refine lv_iload_n hx hb dX0_open_19 rfl (lv_at hl 1 rfl) ?_
    refine va_put (D := (dC, dI)) (ci := 0) (v := .int a1) (ty := .int) (C := "TileBins") (T := TX0) (N := 11) hx hb hts inX0 tyX0 tyX0_ok nmX0 hown hK hP hD hS 0 rfl rfl 9 (by decide) (hts _ kw_62) (fun _ h9 => h9) rfl (by decide +kernel) rfl rfl (Nat.le_of_ble_eq_true rfl) dX0_open_20 (fun H locs hP hD hS => ?_)
    have hP : va_P (dC, dI) vwCl [(h0, .inr (0, [.int fw, .int fh, .int fs, .int fc, .int fl, .int fe, .ref q1, .int fi, .int ft, .int a1, .int fa])), (q1, .inl (cA, an, .inl af))] H := hP
    have hD : va_D A [(h0, .inr (0, [.int fw, .int fh, .int fs, .int fc, .int fl, .int fe, .ref q1, .int fi, .int ft, .int a1, .int fa])), (q1, .inl (cA, an, .inl af))] := hD
    refine lv_aload_n hx hb dX0_open_23 rfl (lv_at hl 0 rfl) ?_
    refine lv_iconst (v := 0) hx hb dX0_open_24 (by first | rfl | decide) ?_
    refine va_put (D := (dC, dI)) (ci := 0) (v := .int 0) (ty := .int) (C := "TileBins") (T := TX0) (N := 11) hx hb hts inX0 tyX0 tyX0_ok nmX0 hown hK hP hD hS 0 rfl rfl 10 (by decide) (hts _ kw_63) (fun _ h9 => h9) rfl (by decide +kernel) rfl rfl (Nat.le_of_ble_eq_true rfl) dX0_open_25 (fun H locs hP hD hS => ?_)
    have hP : va_P (dC, dI) vwCl [(h0, .inr (0, [.int fw, .int fh, .int fs, .int fc, .int fl, .int fe, .ref q1, .int fi, .int ft, .int a1, .int 0])), (q1, .inl (cA, an, .inl af))] H := hP
    have hD : va_D A [(h0, .inr (0, [.int fw, .int fh, .int fs, .int fc, .int fl, .int fe, .ref q1, .int fi, .int ft, .int a1, .int 0])), (q1, .inl (cA, an, .inl af))] := hD
    refine lv_aload_n hx hb dX0_open_28 rfl (lv_at hl 0 rfl) ?_
    refine lv_iload_n hx hb dX0_open_29 rfl (lv_at hl 1 rfl) ?_
    refine ro_calli (va_runV (As := [.int a1]) (rest := []) ⟨hx, hb, hml, hown, hts⟩ (mtX0_itemsTouching l dC dI h0 q1 cA fw fh fs fc fl fe fi ft a1 0 an af H.size a1 N hN hNb han) (cwV 1 hts (gb_v kw_240 kw_242 kw_7 kw_22 kw_243) rfl rfl rfl (by decide +kernel) ⟨Nat.le_of_ble_eq_true rfl, Nat.le_of_ble_eq_true rfl⟩) ⟨ro_P.blind, va_recv hK hP (ci := 0) (q0 := 0) rfl rfl, ro_P.at hP hK⟩ rfl rfl hl.1 rfl (lv_room (Nat.le_of_ble_eq_true rfl)) dX0_open_30 ⟨Nat.le_of_ble_eq_true rfl, Nat.le_of_ble_eq_true rfl⟩) hP hS hA (fun H locs hP hS hz hk => ?_)
    refine W.widen (k := 1) (n := 6) (Nat.le_of_ble_eq_true rfl) (Nat.le_of_ble_eq_true rfl) ?_
    refine vx_ret ?_
    exact W.iret (v := tb_many fs fc fi af a1) hx hb hr (fun t ht hW => ⟨⟨_, (fw, fh, fs, fc, fl, fe, fi, ft, a1, 0, an, af), rfl, (show ((0, (tb_many fs fc fi af a1 : Int32), (fw, fh, fs, fc, fl, fe, fi, ft, a1, 0, an, af)) : Nat × Int32 × TBA) = tb_open fw fh fs fc fl fe fi ft fo fa an af a1 by unfold tb_open; rw [if_neg c_1]), q1, cA, by rw [ht]; exact hP, va_K.moved hW.alike hK, hD⟩, hS.F ht⟩) hS.2.2 dX0_open_33
  · obtain ⟨sa_2, hsa_3⟩ := hZ.str (83, "there is no such tile") (by decide +kernel)
    exact vx_throwS (rest := []) (mc := 1) (ms := 6) hx hb hl9 (own := "TileBins") (cls := "java/lang/IllegalArgumentException") (text := "there is no such tile") (names := ["java/lang/RuntimeException", "java/lang/Exception"]) hown (by decide +kernel) (by decide +kernel) (hts _ kw_103) (hts _ kw_27) hsa_3 (vx_hat (fun w hw => hts w (hx_Aa w hw)) hx_Ab hZ.bad) hx_Ac hZ.u hZ.n hS (hl.1.trans hml.symm) dX0_open_8 dX0_open_11 dX0_open_12 dX0_open_14 dX0_open_17 (fun x hx => (hEx x hx).elim) (Nat.le_of_ble_eq_true rfl) (Nat.le_of_ble_eq_true rfl) (Nat.le_of_ble_eq_true rfl) (Nat.le_of_ble_eq_true rfl) hlocks (fun t ha hz hk => ⟨(1, (fw, fh, fs, fc, fl, fe, fi, ft, fo, fa, an, af)), (show ((1 : Nat), (0 : Int32), ((fw, fh, fs, fc, fl, fe, fi, ft, fo, fa, an, af) : TBA)) = tb_open fw fh fs fc fl fe fi ft fo fa an af a1 by unfold tb_open; rw [if_pos c_1]), ⟨rfl, q1, cA, ro_kept hP hk, va_K.moved ha hK, hD⟩, th_F hS hz hk⟩) hS.2.2 (Nat.le_of_ble_eq_true rfl) (Nat.le_of_ble_eq_true rfl)
def tb_next (fw fh fs fc fl fe fi ft fo fa : Int32) (an : Nat) (af : Nat → Int32) : Nat × Int32 × TBA := (if fo = (-1) then (1, 0, (fw, fh, fs, fc, fl, fe, fi, ft, fo, fa, an, af)) else (if (tb_find fs fc fi af fo fa) = (-1) then (0, tb_find fs fc fi af fo fa, (fw, fh, fs, fc, fl, fe, fi, ft, fo, fi, an, af)) else (0, tb_find fs fc fi af fo fa, (fw, fh, fs, fc, fl, fe, fi, ft, fo, (tb_find fs fc fi af fo fa) + 1, an, af))))
set_option maxHeartbeats 4000000 in
set_option maxRecDepth 100000 in
theorem mtX0_next (l : Launch) (hl9 : l.stackTraces = false) (dC : Nat → ClassId) (dI : Nat → Nat → Nat) (h0 q1 : Nat) (cA : ClassId) (fw fh fs fc fl fe fi ft fo fa : Int32) (an : Nat) (af : Nat → Int32) (sz : Nat) (N : Nat) (hN : fi = nI N) (hNb : N * 6 ≤ an) (han : an < 2 ^ 31) (a0 : Nat) (ha0 : fa = nI a0) (ha0N : a0 ≤ N) : vx_Met l yX0_next wsX0_next ({ frames := 6, cells := 1, slots := 6, locals := 91 }) (va_Pc [.ref h0] (zz_P (dC, dI) vwCl [(h0, .inr (0, [.int fw, .int fh, .int fs, .int fc, .int fl, .int fe, .ref q1, .int fi, .int ft, .int fo, .int fa])), (q1, .inl (cA, an, .inl af))] [(cA, .int)] sz)) (va_Qi (fun (r : Int32) (u : TBA) => (0, r, u) = tb_next fw fh fs fc fl fe fi ft fo fa an af) (tbAt (dC, dI) (va_A [(h0, .inr (0, [.int fw, .int fh, .int fs, .int fc, .int fl, .int fe, .ref q1, .int fi, .int ft, .int fo, .int fa])), (q1, .inl (cA, an, .inl af))] sz) h0) (va_A [(h0, .inr (0, [.int fw, .int fh, .int fs, .int fc, .int fl, .int fe, .ref q1, .int fi, .int ft, .int fo, .int fa])), (q1, .inl (cA, an, .inl af))] sz)) (vx_X (fun (u : Nat × TBA) => (u.1, (0 : Int32), u.2) = tb_next fw fh fs fc fl fe fi ft fo fa an af) (fun E u t => E = tb_exs u.1 ∧ tbAt (dC, dI) (va_A [(h0, .inr (0, [.int fw, .int fh, .int fs, .int fc, .int fl, .int fe, .ref q1, .int fi, .int ft, .int fo, .int fa])), (q1, .inl (cA, an, .inl af))] sz) h0 u.2 t) (va_A [(h0, .inr (0, [.int fw, .int fh, .int fs, .int fc, .int fl, .int fe, .ref q1, .int fi, .int ft, .int fo, .int fa])), (q1, .inl (cA, an, .inl af))] sz)) 1 6 (va_A [(h0, .inr (0, [.int fw, .int fh, .int fs, .int fc, .int fl, .int fe, .ref q1, .int fi, .int ft, .int fo, .int fa])), (q1, .inl (cA, an, .inl af))] sz) := by
  refine vx_ofW (cc := cX0_next) (maxL := 2) (ret := (some .int)) (by decide) rfl ?_
  intro p e s m args below meth c s₁ B hml hEx hv
  obtain ⟨rfl, ⟨hsz, hP, hK, hD0⟩, hZ⟩ := hv
  have hx := B.exec
  have hb := B.bytes
  have hr := B.returns
  have hts : ∀ w ∈ gb, w.before _ s = true := fun w h => atoms_spec (ws := wsX0_next) B.pre w (List.mem_cons_of_mem _ h)
  have hown : s.vm.findClass "TileBins" = some m.cls := findClass_of_methodNamed B.named
  have hlocks := B.notSynchronized
  subst hsz
  have hD := hD0.self (sz := s.heap.size)
  generalize hAe : va_A [(h0, .inr (0, [.int fw, .int fh, .int fs, .int fc, .int fl, .int fe, .ref q1, .int fi, .int ft, .int fo, .int fa])), (q1, .inl (cA, an, .inl af))] s.heap.size = A at hD hZ ⊢
  have hA : ∀ q : Nat, s.heap.size ≤ q → A q := fun q h => by rw [← hAe]; exact Or.inr h
  have hS : va_S A s.heap s.heap [] := va_S.rf
  have hP : va_P (dC, dI) vwCl [(h0, .inr (0, [.int fw, .int fh, .int fs, .int fc, .int fl, .int fe, .ref q1, .int fi, .int ft, .int fo, .int fa])), (q1, .inl (cA, an, .inl af))] s.heap := hP
  have hl := lv_entry ([.ref h0]) (n := 2) (Nat.le_of_ble_eq_true rfl)
  rw [lg_entry_eq]
  generalize (lg_sl ([.ref h0]) ++ List.replicate (2 - (lg_sl ([.ref h0])).length) Slot.unset).toArray = ls at hl ⊢
  have hl : lv_has ls 2 [(0, .ref h0)] := hl
  refine lv_aload_n hx hb dX0_next_0 rfl (lv_at hl 0 rfl) ?_
  refine va_get (D := (dC, dI)) (ci := 0) (v := .int fo) (C := "TileBins") (T := TX0) (N := 11) hx hb hts inX0 hown hK hP 0 rfl rfl 9 (by decide) (hts _ kw_62) (fun _ h9 => h9) rfl dX0_next_1 ?_
  refine lv_iconst (v := (-1)) hx hb dX0_next_4 (by first | rfl | decide) ?_
  refine lv_icmp_ne (tgt := 18) hx hb dX0_next_5 (by decide) (fun c_1 => ?_) (fun c_1 => ?_)
  · refine lv_aload_n hx hb dX0_next_18 rfl (lv_at hl 0 rfl) ?_
    refine lv_aload_n hx hb dX0_next_19 rfl (lv_at hl 0 rfl) ?_
    refine va_get (D := (dC, dI)) (ci := 0) (v := .int fo) (C := "TileBins") (T := TX0) (N := 11) hx hb hts inX0 hown hK hP 0 rfl rfl 9 (by decide) (hts _ kw_62) (fun _ h9 => h9) rfl dX0_next_20 ?_
    refine lv_aload_n hx hb dX0_next_23 rfl (lv_at hl 0 rfl) ?_
    refine va_get (D := (dC, dI)) (ci := 0) (v := .int fa) (C := "TileBins") (T := TX0) (N := 11) hx hb hts inX0 hown hK hP 0 rfl rfl 10 (by decide) (hts _ kw_63) (fun _ h9 => h9) rfl dX0_next_24 ?_
    refine ro_calli (va_runV (As := [.int fo, .int fa]) (rest := []) ⟨hx, hb, hml, hown, hts⟩ (mtX0_firstTouching l dC dI h0 q1 cA fw fh fs fc fl fe fi ft fo fa an af s.heap.size fo fa N hN hNb han a0 ha0 ha0N) (cwV 2 hts (gb_v kw_268 kw_270 kw_12 kw_22 kw_271) rfl rfl rfl (by decide +kernel) ⟨Nat.le_of_ble_eq_true rfl, Nat.le_of_ble_eq_true rfl⟩) ⟨ro_P.blind, va_recv hK hP (ci := 0) (q0 := 0) rfl rfl, ro_P.at hP hK⟩ rfl rfl hl.1 rfl (lv_room (Nat.le_of_ble_eq_true rfl)) dX0_next_27 ⟨Nat.le_of_ble_eq_true rfl, Nat.le_of_ble_eq_true rfl⟩) hP hS hA (fun H locs hP hS hz hk => ?_)
    refine lv_istore_n (lv' := [(1, .int (tb_find fs fc fi af fo fa)), (0, .ref h0)]) hx hb dX0_next_30 rfl hl (by decide) rfl (fun ls hl => ?_)
    refine lv_aload_n hx hb dX0_next_31 rfl (lv_at hl 1 rfl) ?_
    refine lv_iload_n hx hb dX0_next_32 rfl (lv_at hl 0 rfl) ?_
    refine lv_iconst (v := (-1)) hx hb dX0_next_33 (by first | rfl | decide) ?_
    refine lv_icmp_ne (tgt := 44) hx hb dX0_next_34 (by decide) (fun c_2 => ?_) (fun c_2 => ?_)
    · refine lv_iload_n hx hb dX0_next_44 rfl (lv_at hl 0 rfl) ?_
      refine lv_iconst (v := 1) hx hb dX0_next_45 (by first | rfl | decide) ?_
      refine lv_iadd hx hb dX0_next_46 ?_
      refine va_put (D := (dC, dI)) (ci := 0) (v := .int ((tb_find fs fc fi af fo fa) + 1)) (ty := .int) (C := "TileBins") (T := TX0) (N := 11) hx hb hts inX0 tyX0 tyX0_ok nmX0 hown hK hP hD hS 0 rfl rfl 10 (by decide) (hts _ kw_63) (fun _ h9 => h9) rfl (by decide +kernel) rfl rfl (Nat.le_of_ble_eq_true rfl) dX0_next_47 (fun H locs hP hD hS => ?_)
      have hP : va_P (dC, dI) vwCl [(h0, .inr (0, [.int fw, .int fh, .int fs, .int fc, .int fl, .int fe, .ref q1, .int fi, .int ft, .int fo, .int ((tb_find fs fc fi af fo fa) + 1)])), (q1, .inl (cA, an, .inl af))] H := hP
      have hD : va_D A [(h0, .inr (0, [.int fw, .int fh, .int fs, .int fc, .int fl, .int fe, .ref q1, .int fi, .int ft, .int fo, .int ((tb_find fs fc fi af fo fa) + 1)])), (q1, .inl (cA, an, .inl af))] := hD
      refine lv_iload_n hx hb dX0_next_50 rfl (lv_at hl 0 rfl) ?_
      refine W.widen (k := 1) (n := 6) (Nat.le_of_ble_eq_true rfl) (Nat.le_of_ble_eq_true rfl) ?_
      refine vx_ret ?_
      exact W.iret (v := tb_find fs fc fi af fo fa) hx hb hr (fun t ht hW => ⟨⟨_, (fw, fh, fs, fc, fl, fe, fi, ft, fo, (tb_find fs fc fi af fo fa) + 1, an, af), rfl, (show ((0, (tb_find fs fc fi af fo fa : Int32), (fw, fh, fs, fc, fl, fe, fi, ft, fo, (tb_find fs fc fi af fo fa) + 1, an, af)) : Nat × Int32 × TBA) = tb_next fw fh fs fc fl fe fi ft fo fa an af by unfold tb_next; rw [if_neg c_1, if_neg c_2]), q1, cA, by rw [ht]; exact hP, va_K.moved hW.alike hK, hD⟩, hS.F ht⟩) hS.2.2 dX0_next_51
    · refine lv_aload_n hx hb dX0_next_37 rfl (lv_at hl 1 rfl) ?_
      refine va_get (D := (dC, dI)) (ci := 0) (v := .int fi) (C := "TileBins") (T := TX0) (N := 11) hx hb hts inX0 hown hK hP 0 rfl rfl 7 (by decide) (hts _ kw_60) (fun _ h9 => h9) rfl dX0_next_38 ?_
      refine lv_goto (tgt := 47) hx hb dX0_next_41 (by decide) ?_
      refine va_put (D := (dC, dI)) (ci := 0) (v := .int fi) (ty := .int) (C := "TileBins") (T := TX0) (N := 11) hx hb hts inX0 tyX0 tyX0_ok nmX0 hown hK hP hD hS 0 rfl rfl 10 (by decide) (hts _ kw_63) (fun _ h9 => h9) rfl (by decide +kernel) rfl rfl (Nat.le_of_ble_eq_true rfl) dX0_next_47 (fun H locs hP hD hS => ?_)
      have hP : va_P (dC, dI) vwCl [(h0, .inr (0, [.int fw, .int fh, .int fs, .int fc, .int fl, .int fe, .ref q1, .int fi, .int ft, .int fo, .int fi])), (q1, .inl (cA, an, .inl af))] H := hP
      have hD : va_D A [(h0, .inr (0, [.int fw, .int fh, .int fs, .int fc, .int fl, .int fe, .ref q1, .int fi, .int ft, .int fo, .int fi])), (q1, .inl (cA, an, .inl af))] := hD
      refine lv_iload_n hx hb dX0_next_50 rfl (lv_at hl 0 rfl) ?_
      refine W.widen (k := 1) (n := 6) (Nat.le_of_ble_eq_true rfl) (Nat.le_of_ble_eq_true rfl) ?_
      refine vx_ret ?_
      exact W.iret (v := tb_find fs fc fi af fo fa) hx hb hr (fun t ht hW => ⟨⟨_, (fw, fh, fs, fc, fl, fe, fi, ft, fo, fi, an, af), rfl, (show ((0, (tb_find fs fc fi af fo fa : Int32), (fw, fh, fs, fc, fl, fe, fi, ft, fo, fi, an, af)) : Nat × Int32 × TBA) = tb_next fw fh fs fc fl fe fi ft fo fa an af by unfold tb_next; rw [if_neg c_1, if_pos c_2]), q1, cA, by rw [ht]; exact hP, va_K.moved hW.alike hK, hD⟩, hS.F ht⟩) hS.2.2 dX0_next_51
  · obtain ⟨sa_3, hsa_4⟩ := hZ.str (94, "no tile is open") (by decide +kernel)
    exact vx_throwS (rest := []) (mc := 1) (ms := 6) hx hb hl9 (own := "TileBins") (cls := "java/lang/IllegalStateException") (text := "no tile is open") (names := ["java/lang/RuntimeException", "java/lang/Exception"]) hown (by decide +kernel) (by decide +kernel) (hts _ kw_194) (hts _ kw_29) hsa_4 (vx_hat (fun w hw => hts w (hx_Sa w hw)) hx_Sb hZ.bad) hx_Sc hZ.u hZ.n hS (hl.1.trans hml.symm) dX0_next_8 dX0_next_11 dX0_next_12 dX0_next_14 dX0_next_17 (fun x hx => (hEx x hx).elim) (Nat.le_of_ble_eq_true rfl) (Nat.le_of_ble_eq_true rfl) (Nat.le_of_ble_eq_true rfl) (Nat.le_of_ble_eq_true rfl) hlocks (fun t ha hz hk => ⟨(1, (fw, fh, fs, fc, fl, fe, fi, ft, fo, fa, an, af)), (show ((1 : Nat), (0 : Int32), ((fw, fh, fs, fc, fl, fe, fi, ft, fo, fa, an, af) : TBA)) = tb_next fw fh fs fc fl fe fi ft fo fa an af by unfold tb_next; rw [if_pos c_1]), ⟨rfl, q1, cA, ro_kept hP hk, va_K.moved ha hK, hD⟩, th_F hS hz hk⟩) hS.2.2 (Nat.le_of_ble_eq_true rfl) (Nat.le_of_ble_eq_true rfl)
def tb_item (fw fh fs fc fl fe fi ft fo fa : Int32) (an : Nat) (af : Nat → Int32) (a1 a2 : Int32) : Nat × Int32 × TBA := (if a1 < 0 then (1, 0, (fw, fh, fs, fc, fl, fe, fi, ft, fo, fa, an, af)) else (if a1 < fi then (if a2 < 0 then (2, 0, (fw, fh, fs, fc, fl, fe, fi, ft, fo, fa, an, af)) else (if a2 < 6 then (0, af ((a1 * 6) + a2).toNatClampNeg, (fw, fh, fs, fc, fl, fe, fi, ft, fo, fa, an, af)) else (2, 0, (fw, fh, fs, fc, fl, fe, fi, ft, fo, fa, an, af)))) else (1, 0, (fw, fh, fs, fc, fl, fe, fi, ft, fo, fa, an, af))))
set_option maxHeartbeats 4000000 in
set_option maxRecDepth 100000 in
theorem mtX0_item (l : Launch) (hl9 : l.stackTraces = false) (dC : Nat → ClassId) (dI : Nat → Nat → Nat) (h0 q1 : Nat) (cA : ClassId) (fw fh fs fc fl fe fi ft fo fa : Int32) (an : Nat) (af : Nat → Int32) (sz : Nat) (a1 a2 : Int32) (N : Nat) (hN : fi = nI N) (hNb : N * 6 ≤ an) (han : an < 2 ^ 31) : vx_Met l yX0_item wsX0_item ({ frames := 6, cells := 1, slots := 6, locals := 91 }) (va_Pc [.ref h0, .int a1, .int a2] (zz_P (dC, dI) vwCl [(h0, .inr (0, [.int fw, .int fh, .int fs, .int fc, .int fl, .int fe, .ref q1, .int fi, .int ft, .int fo, .int fa])), (q1, .inl (cA, an, .inl af))] [(cA, .int)] sz)) (va_Qi (fun (r : Int32) (u : TBA) => (0, r, u) = tb_item fw fh fs fc fl fe fi ft fo fa an af a1 a2) (tbAt (dC, dI) (va_A [(h0, .inr (0, [.int fw, .int fh, .int fs, .int fc, .int fl, .int fe, .ref q1, .int fi, .int ft, .int fo, .int fa])), (q1, .inl (cA, an, .inl af))] sz) h0) (va_A [(h0, .inr (0, [.int fw, .int fh, .int fs, .int fc, .int fl, .int fe, .ref q1, .int fi, .int ft, .int fo, .int fa])), (q1, .inl (cA, an, .inl af))] sz)) (vx_X (fun (u : Nat × TBA) => (u.1, (0 : Int32), u.2) = tb_item fw fh fs fc fl fe fi ft fo fa an af a1 a2) (fun E u t => E = tb_exi u.1 ∧ tbAt (dC, dI) (va_A [(h0, .inr (0, [.int fw, .int fh, .int fs, .int fc, .int fl, .int fe, .ref q1, .int fi, .int ft, .int fo, .int fa])), (q1, .inl (cA, an, .inl af))] sz) h0 u.2 t) (va_A [(h0, .inr (0, [.int fw, .int fh, .int fs, .int fc, .int fl, .int fe, .ref q1, .int fi, .int ft, .int fo, .int fa])), (q1, .inl (cA, an, .inl af))] sz)) 1 6 (va_A [(h0, .inr (0, [.int fw, .int fh, .int fs, .int fc, .int fl, .int fe, .ref q1, .int fi, .int ft, .int fo, .int fa])), (q1, .inl (cA, an, .inl af))] sz) := by
  refine vx_ofW (cc := cX0_item) (maxL := 3) (ret := (some .int)) (by decide) rfl ?_
  intro p e s m args below meth c s₁ B hml hEx hv
  obtain ⟨rfl, ⟨hsz, hP, hK, hD0⟩, hZ⟩ := hv
  have hx := B.exec
  have hb := B.bytes
  have hr := B.returns
  have hts : ∀ w ∈ gb, w.before _ s = true := fun w h => atoms_spec (ws := wsX0_item) B.pre w (List.mem_cons_of_mem _ h)
  have hown : s.vm.findClass "TileBins" = some m.cls := findClass_of_methodNamed B.named
  have hlocks := B.notSynchronized
  subst hsz
  have hD := hD0.self (sz := s.heap.size)
  generalize hAe : va_A [(h0, .inr (0, [.int fw, .int fh, .int fs, .int fc, .int fl, .int fe, .ref q1, .int fi, .int ft, .int fo, .int fa])), (q1, .inl (cA, an, .inl af))] s.heap.size = A at hD hZ ⊢
  have hA : ∀ q : Nat, s.heap.size ≤ q → A q := fun q h => by rw [← hAe]; exact Or.inr h
  have hS : va_S A s.heap s.heap [] := va_S.rf
  have hP : va_P (dC, dI) vwCl [(h0, .inr (0, [.int fw, .int fh, .int fs, .int fc, .int fl, .int fe, .ref q1, .int fi, .int ft, .int fo, .int fa])), (q1, .inl (cA, an, .inl af))] s.heap := hP
  have hl := lv_entry ([.ref h0, .int a1, .int a2]) (n := 3) (Nat.le_of_ble_eq_true rfl)
  rw [lg_entry_eq]
  generalize (lg_sl ([.ref h0, .int a1, .int a2]) ++ List.replicate (3 - (lg_sl ([.ref h0, .int a1, .int a2])).length) Slot.unset).toArray = ls at hl ⊢
  have hl : lv_has ls 3 [(0, .ref h0), (1, .int a1), (2, .int a2)] := hl
  refine lv_iload_n hx hb dX0_item_0 rfl (lv_at hl 1 rfl) ?_
  refine lv_if_lt (tgt := 12) hx hb dX0_item_1 (by decide) (fun c_1 => ?_) (fun c_1 => ?_)
  · obtain ⟨sa_2, hsa_3⟩ := hZ.str (101, "there is no such item") (by decide +kernel)
    exact vx_throwS (rest := []) (mc := 1) (ms := 6) hx hb hl9 (own := "TileBins") (cls := "java/lang/IndexOutOfBoundsException") (text := "there is no such item") (names := ["java/lang/RuntimeException", "java/lang/Exception"]) hown (by decide +kernel) (by decide +kernel) (hts _ kw_280) (hts _ kw_32) hsa_3 (vx_hat (fun w hw => hts w (hx_Ia w hw)) hx_Ib hZ.bad) hx_Ic hZ.u hZ.n hS (hl.1.trans hml.symm) dX0_item_12 dX0_item_15 dX0_item_16 dX0_item_18 dX0_item_21 (fun x hx => (hEx x hx).elim) (Nat.le_of_ble_eq_true rfl) (Nat.le_of_ble_eq_true rfl) (Nat.le_of_ble_eq_true rfl) (Nat.le_of_ble_eq_true rfl) hlocks (fun t ha hz hk => ⟨(1, (fw, fh, fs, fc, fl, fe, fi, ft, fo, fa, an, af)), (show ((1 : Nat), (0 : Int32), ((fw, fh, fs, fc, fl, fe, fi, ft, fo, fa, an, af) : TBA)) = tb_item fw fh fs fc fl fe fi ft fo fa an af a1 a2 by unfold tb_item; rw [if_pos c_1]), ⟨rfl, q1, cA, ro_kept hP hk, va_K.moved ha hK, hD⟩, th_F hS hz hk⟩) hS.2.2 (Nat.le_of_ble_eq_true rfl) (Nat.le_of_ble_eq_true rfl)
  · refine lv_iload_n hx hb dX0_item_4 rfl (lv_at hl 1 rfl) ?_
    refine lv_aload_n hx hb dX0_item_5 rfl (lv_at hl 0 rfl) ?_
    refine va_get (D := (dC, dI)) (ci := 0) (v := .int fi) (C := "TileBins") (T := TX0) (N := 11) hx hb hts inX0 hown hK hP 0 rfl rfl 7 (by decide) (hts _ kw_60) (fun _ h9 => h9) rfl dX0_item_6 ?_
    refine lv_icmp_lt (tgt := 22) hx hb dX0_item_9 (by decide) (fun c_4 => ?_) (fun c_4 => ?_)
    · refine lv_iload_n hx hb dX0_item_22 rfl (lv_at hl 2 rfl) ?_
      refine lv_if_lt (tgt := 32) hx hb dX0_item_23 (by decide) (fun c_5 => ?_) (fun c_5 => ?_)
      · obtain ⟨sa_6, hsa_7⟩ := hZ.str (104, "of an item there is 0 to 5") (by decide +kernel)
        exact vx_throwS (rest := []) (mc := 1) (ms := 6) hx hb hl9 (own := "TileBins") (cls := "java/lang/IllegalArgumentException") (text := "of an item there is 0 to 5") (names := ["java/lang/RuntimeException", "java/lang/Exception"]) hown (by decide +kernel) (by decide +kernel) (hts _ kw_103) (hts _ kw_27) hsa_7 (vx_hat (fun w hw => hts w (hx_Aa w hw)) hx_Ab hZ.bad) hx_Ac hZ.u hZ.n hS (hl.1.trans hml.symm) dX0_item_32 dX0_item_35 dX0_item_36 dX0_item_38 dX0_item_41 (fun x hx => (hEx x hx).elim) (Nat.le_of_ble_eq_true rfl) (Nat.le_of_ble_eq_true rfl) (Nat.le_of_ble_eq_true rfl) (Nat.le_of_ble_eq_true rfl) hlocks (fun t ha hz hk => ⟨(2, (fw, fh, fs, fc, fl, fe, fi, ft, fo, fa, an, af)), (show ((2 : Nat), (0 : Int32), ((fw, fh, fs, fc, fl, fe, fi, ft, fo, fa, an, af) : TBA)) = tb_item fw fh fs fc fl fe fi ft fo fa an af a1 a2 by unfold tb_item; rw [if_neg c_1, if_pos c_4, if_pos c_5]), ⟨rfl, q1, cA, ro_kept hP hk, va_K.moved ha hK, hD⟩, th_F hS hz hk⟩) hS.2.2 (Nat.le_of_ble_eq_true rfl) (Nat.le_of_ble_eq_true rfl)
      · refine lv_iload_n hx hb dX0_item_26 rfl (lv_at hl 2 rfl) ?_
        refine lv_bipush (v := 6) hx hb dX0_item_27 (by first | rfl | decide) ?_
        refine lv_icmp_lt (tgt := 42) hx hb dX0_item_29 (by decide) (fun c_8 => ?_) (fun c_8 => ?_)
        · refine lv_aload_n hx hb dX0_item_42 rfl (lv_at hl 0 rfl) ?_
          refine va_get (D := (dC, dI)) (ci := 0) (v := .ref q1) (C := "TileBins") (T := TX0) (N := 11) hx hb hts inX0 hown hK hP 0 rfl rfl 6 (by decide) (hts _ kw_59) (fun _ h9 => h9) rfl dX0_item_43 ?_
          refine lv_iload_n hx hb dX0_item_46 rfl (lv_at hl 1 rfl) ?_
          refine lv_bipush (v := 6) hx hb dX0_item_47 (by first | rfl | decide) ?_
          refine lv_imul hx hb dX0_item_49 ?_
          refine lv_iload_n hx hb dX0_item_50 rfl (lv_at hl 2 rfl) ?_
          refine lv_iadd hx hb dX0_item_51 ?_
          refine va_iald hx hb hK hP 1 0 rfl rfl (lm_it hN hNb han c_1 c_4 c_5 c_8) dX0_item_52 ?_
          refine W.widen (k := 1) (n := 6) (Nat.le_of_ble_eq_true rfl) (Nat.le_of_ble_eq_true rfl) ?_
          refine vx_ret ?_
          exact W.iret (v := af ((a1 * 6) + a2).toNatClampNeg) hx hb hr (fun t ht hW => ⟨⟨_, (fw, fh, fs, fc, fl, fe, fi, ft, fo, fa, an, af), rfl, (show ((0, (af ((a1 * 6) + a2).toNatClampNeg : Int32), (fw, fh, fs, fc, fl, fe, fi, ft, fo, fa, an, af)) : Nat × Int32 × TBA) = tb_item fw fh fs fc fl fe fi ft fo fa an af a1 a2 by unfold tb_item; rw [if_neg c_1, if_pos c_4, if_neg c_5, if_pos c_8]), q1, cA, by rw [ht]; exact hP, va_K.moved hW.alike hK, hD⟩, hS.F ht⟩) hS.2.2 dX0_item_53
        · obtain ⟨sa_9, hsa_10⟩ := hZ.str (104, "of an item there is 0 to 5") (by decide +kernel)
          exact vx_throwS (rest := []) (mc := 1) (ms := 6) hx hb hl9 (own := "TileBins") (cls := "java/lang/IllegalArgumentException") (text := "of an item there is 0 to 5") (names := ["java/lang/RuntimeException", "java/lang/Exception"]) hown (by decide +kernel) (by decide +kernel) (hts _ kw_103) (hts _ kw_27) hsa_10 (vx_hat (fun w hw => hts w (hx_Aa w hw)) hx_Ab hZ.bad) hx_Ac hZ.u hZ.n hS (hl.1.trans hml.symm) dX0_item_32 dX0_item_35 dX0_item_36 dX0_item_38 dX0_item_41 (fun x hx => (hEx x hx).elim) (Nat.le_of_ble_eq_true rfl) (Nat.le_of_ble_eq_true rfl) (Nat.le_of_ble_eq_true rfl) (Nat.le_of_ble_eq_true rfl) hlocks (fun t ha hz hk => ⟨(2, (fw, fh, fs, fc, fl, fe, fi, ft, fo, fa, an, af)), (show ((2 : Nat), (0 : Int32), ((fw, fh, fs, fc, fl, fe, fi, ft, fo, fa, an, af) : TBA)) = tb_item fw fh fs fc fl fe fi ft fo fa an af a1 a2 by unfold tb_item; rw [if_neg c_1, if_pos c_4, if_neg c_5, if_neg c_8]), ⟨rfl, q1, cA, ro_kept hP hk, va_K.moved ha hK, hD⟩, th_F hS hz hk⟩) hS.2.2 (Nat.le_of_ble_eq_true rfl) (Nat.le_of_ble_eq_true rfl)
    · obtain ⟨sa_11, hsa_12⟩ := hZ.str (101, "there is no such item") (by decide +kernel)
      exact vx_throwS (rest := []) (mc := 1) (ms := 6) hx hb hl9 (own := "TileBins") (cls := "java/lang/IndexOutOfBoundsException") (text := "there is no such item") (names := ["java/lang/RuntimeException", "java/lang/Exception"]) hown (by decide +kernel) (by decide +kernel) (hts _ kw_280) (hts _ kw_32) hsa_12 (vx_hat (fun w hw => hts w (hx_Ia w hw)) hx_Ib hZ.bad) hx_Ic hZ.u hZ.n hS (hl.1.trans hml.symm) dX0_item_12 dX0_item_15 dX0_item_16 dX0_item_18 dX0_item_21 (fun x hx => (hEx x hx).elim) (Nat.le_of_ble_eq_true rfl) (Nat.le_of_ble_eq_true rfl) (Nat.le_of_ble_eq_true rfl) (Nat.le_of_ble_eq_true rfl) hlocks (fun t ha hz hk => ⟨(1, (fw, fh, fs, fc, fl, fe, fi, ft, fo, fa, an, af)), (show ((1 : Nat), (0 : Int32), ((fw, fh, fs, fc, fl, fe, fi, ft, fo, fa, an, af) : TBA)) = tb_item fw fh fs fc fl fe fi ft fo fa an af a1 a2 by unfold tb_item; rw [if_neg c_1, if_neg c_4]), ⟨rfl, q1, cA, ro_kept hP hk, va_K.moved ha hK, hD⟩, th_F hS hz hk⟩) hS.2.2 (Nat.le_of_ble_eq_true rfl) (Nat.le_of_ble_eq_true rfl)
def tb_tile (fw fh fs fc fl fe fi ft fo fa : Int32) (an : Nat) (af : Nat → Int32) (a1 a2 : Int32) : Nat × Int32 × TBA := (if (tb_isTile fc fl a1) = 0 then (1, 0, (fw, fh, fs, fc, fl, fe, fi, ft, fo, fa, an, af)) else (if a2 = 0 then (0, tb_left fs fc a1, (fw, fh, fs, fc, fl, fe, fi, ft, fo, fa, an, af)) else (if a2 = 1 then (0, tb_top fs fc a1, (fw, fh, fs, fc, fl, fe, fi, ft, fo, fa, an, af)) else (if a2 = 2 then (0, if fw < ((tb_left fs fc a1) + (tb_side fs)) then fw else ((tb_left fs fc a1) + (tb_side fs)), (fw, fh, fs, fc, fl, fe, fi, ft, fo, fa, an, af)) else (if a2 = 3 then (0, if fh < ((tb_top fs fc a1) + (tb_side fs)) then fh else ((tb_top fs fc a1) + (tb_side fs)), (fw, fh, fs, fc, fl, fe, fi, ft, fo, fa, an, af)) else (if a2 = 4 then (0, tb_many fs fc fi af a1, (fw, fh, fs, fc, fl, fe, fi, ft, fo, fa, an, af)) else (1, 0, (fw, fh, fs, fc, fl, fe, fi, ft, fo, fa, an, af))))))))
set_option maxHeartbeats 4000000 in
set_option maxRecDepth 100000 in
theorem mtX0_tile (l : Launch) (hl9 : l.stackTraces = false) (dC : Nat → ClassId) (dI : Nat → Nat → Nat) (h0 q1 : Nat) (cA : ClassId) (fw fh fs fc fl fe fi ft fo fa : Int32) (an : Nat) (af : Nat → Int32) (sz : Nat) (a1 a2 : Int32) (N : Nat) (hN : fi = nI N) (hNb : N * 6 ≤ an) (han : an < 2 ^ 31) : vx_Met l yX0_tile wsX0_tile ({ frames := 6, cells := 1, slots := 6, locals := 91 }) (va_Pc [.ref h0, .int a1, .int a2] (zz_P (dC, dI) vwCl [(h0, .inr (0, [.int fw, .int fh, .int fs, .int fc, .int fl, .int fe, .ref q1, .int fi, .int ft, .int fo, .int fa])), (q1, .inl (cA, an, .inl af))] [(cA, .int)] sz)) (va_Qi (fun (r : Int32) (u : TBA) => (0, r, u) = tb_tile fw fh fs fc fl fe fi ft fo fa an af a1 a2) (tbAt (dC, dI) (va_A [(h0, .inr (0, [.int fw, .int fh, .int fs, .int fc, .int fl, .int fe, .ref q1, .int fi, .int ft, .int fo, .int fa])), (q1, .inl (cA, an, .inl af))] sz) h0) (va_A [(h0, .inr (0, [.int fw, .int fh, .int fs, .int fc, .int fl, .int fe, .ref q1, .int fi, .int ft, .int fo, .int fa])), (q1, .inl (cA, an, .inl af))] sz)) (vx_X (fun (u : Nat × TBA) => (u.1, (0 : Int32), u.2) = tb_tile fw fh fs fc fl fe fi ft fo fa an af a1 a2) (fun E u t => E = tb_exa u.1 ∧ tbAt (dC, dI) (va_A [(h0, .inr (0, [.int fw, .int fh, .int fs, .int fc, .int fl, .int fe, .ref q1, .int fi, .int ft, .int fo, .int fa])), (q1, .inl (cA, an, .inl af))] sz) h0 u.2 t) (va_A [(h0, .inr (0, [.int fw, .int fh, .int fs, .int fc, .int fl, .int fe, .ref q1, .int fi, .int ft, .int fo, .int fa])), (q1, .inl (cA, an, .inl af))] sz)) 1 6 (va_A [(h0, .inr (0, [.int fw, .int fh, .int fs, .int fc, .int fl, .int fe, .ref q1, .int fi, .int ft, .int fo, .int fa])), (q1, .inl (cA, an, .inl af))] sz) := by
  refine vx_ofW (cc := cX0_tile) (maxL := 3) (ret := (some .int)) (by decide) rfl ?_
  intro p e s m args below meth c s₁ B hml hEx hv
  obtain ⟨rfl, ⟨hsz, hP, hK, hD0⟩, hZ⟩ := hv
  have hx := B.exec
  have hb := B.bytes
  have hr := B.returns
  have hts : ∀ w ∈ gb, w.before _ s = true := fun w h => atoms_spec (ws := wsX0_tile) B.pre w (List.mem_cons_of_mem _ h)
  have hown : s.vm.findClass "TileBins" = some m.cls := findClass_of_methodNamed B.named
  have hlocks := B.notSynchronized
  subst hsz
  have hD := hD0.self (sz := s.heap.size)
  generalize hAe : va_A [(h0, .inr (0, [.int fw, .int fh, .int fs, .int fc, .int fl, .int fe, .ref q1, .int fi, .int ft, .int fo, .int fa])), (q1, .inl (cA, an, .inl af))] s.heap.size = A at hD hZ ⊢
  have hA : ∀ q : Nat, s.heap.size ≤ q → A q := fun q h => by rw [← hAe]; exact Or.inr h
  have hS : va_S A s.heap s.heap [] := va_S.rf
  have hP : va_P (dC, dI) vwCl [(h0, .inr (0, [.int fw, .int fh, .int fs, .int fc, .int fl, .int fe, .ref q1, .int fi, .int ft, .int fo, .int fa])), (q1, .inl (cA, an, .inl af))] s.heap := hP
  have hl := lv_entry ([.ref h0, .int a1, .int a2]) (n := 3) (Nat.le_of_ble_eq_true rfl)
  rw [lg_entry_eq]
  generalize (lg_sl ([.ref h0, .int a1, .int a2]) ++ List.replicate (3 - (lg_sl ([.ref h0, .int a1, .int a2])).length) Slot.unset).toArray = ls at hl ⊢
  have hl : lv_has ls 3 [(0, .ref h0), (1, .int a1), (2, .int a2)] := hl
  refine lv_aload_n hx hb dX0_tile_0 rfl (lv_at hl 0 rfl) ?_
  refine lv_iload_n hx hb dX0_tile_1 rfl (lv_at hl 1 rfl) ?_
  refine ro_calli (va_runV (As := [.int a1]) (rest := []) ⟨hx, hb, hml, hown, hts⟩ (mtX0_isTile l dC dI h0 q1 cA fw fh fs fc fl fe fi ft fo fa an af s.heap.size a1) (cwV 1 hts (gb_v kw_235 kw_237 kw_6 kw_22 kw_238) rfl rfl rfl (by decide +kernel) ⟨Nat.le_of_ble_eq_true rfl, Nat.le_of_ble_eq_true rfl⟩) ⟨ro_P.blind, va_recv hK hP (ci := 0) (q0 := 0) rfl rfl, ro_P.at hP hK⟩ rfl rfl hl.1 rfl (lv_room (Nat.le_of_ble_eq_true rfl)) dX0_tile_2 ⟨Nat.le_of_ble_eq_true rfl, Nat.le_of_ble_eq_true rfl⟩) hP hS hA (fun H locs hP hS hz hk => ?_)
  refine lv_if_ne (tgt := 18) hx hb dX0_tile_5 (by decide) (fun c_1 => ?_) (fun c_1 => ?_)
  · refine lv_iload_n hx hb dX0_tile_18 rfl (lv_at hl 2 rfl) ?_
    rcases Classical.em (a2 = 0) with c_2 | c_2
    · refine lv_tableIn (off := 33) (tgt := 52) hx hb dX0_tile_19 (by rw [c_2]; decide) (by rw [c_2]; decide) (by rw [c_2]; rfl) (by decide) ?_
      refine lv_aload_n hx hb dX0_tile_52 rfl (lv_at hl 0 rfl) ?_
      refine lv_iload_n hx hb dX0_tile_53 rfl (lv_at hl 1 rfl) ?_
      refine ro_calli (va_runV (As := [.int a1]) (rest := []) ⟨hx, hb, hml, hown, hts⟩ (mtX0_leftOf l dC dI h0 q1 cA fw fh fs fc fl fe fi ft fo fa an af H.size a1) (cwV 1 hts (gb_v kw_244 kw_246 kw_8 kw_22 kw_247) rfl rfl rfl (by decide +kernel) ⟨Nat.le_of_ble_eq_true rfl, Nat.le_of_ble_eq_true rfl⟩) ⟨ro_P.blind, va_recv hK hP (ci := 0) (q0 := 0) rfl rfl, ro_P.at hP hK⟩ rfl rfl hl.1 rfl (lv_room (Nat.le_of_ble_eq_true rfl)) dX0_tile_54 ⟨Nat.le_of_ble_eq_true rfl, Nat.le_of_ble_eq_true rfl⟩) hP hS hA (fun H locs hP hS hz hk => ?_)
      refine W.widen (k := 1) (n := 6) (Nat.le_of_ble_eq_true rfl) (Nat.le_of_ble_eq_true rfl) ?_
      refine vx_ret ?_
      exact W.iret (v := tb_left fs fc a1) hx hb hr (fun t ht hW => ⟨⟨_, (fw, fh, fs, fc, fl, fe, fi, ft, fo, fa, an, af), rfl, (show ((0, (tb_left fs fc a1 : Int32), (fw, fh, fs, fc, fl, fe, fi, ft, fo, fa, an, af)) : Nat × Int32 × TBA) = tb_tile fw fh fs fc fl fe fi ft fo fa an af a1 a2 by unfold tb_tile; rw [if_neg c_1, if_pos c_2]), q1, cA, by rw [ht]; exact hP, va_K.moved hW.alike hK, hD⟩, hS.F ht⟩) hS.2.2 dX0_tile_57
    · rcases Classical.em (a2 = 1) with c_3 | c_3
      · refine lv_tableIn (off := 39) (tgt := 58) hx hb dX0_tile_19 (by rw [c_3]; decide) (by rw [c_3]; decide) (by rw [c_3]; rfl) (by decide) ?_
        refine lv_aload_n hx hb dX0_tile_58 rfl (lv_at hl 0 rfl) ?_
        refine lv_iload_n hx hb dX0_tile_59 rfl (lv_at hl 1 rfl) ?_
        refine ro_calli (va_runV (As := [.int a1]) (rest := []) ⟨hx, hb, hml, hown, hts⟩ (mtX0_topOf l dC dI h0 q1 cA fw fh fs fc fl fe fi ft fo fa an af H.size a1) (cwV 1 hts (gb_v kw_248 kw_250 kw_9 kw_22 kw_251) rfl rfl rfl (by decide +kernel) ⟨Nat.le_of_ble_eq_true rfl, Nat.le_of_ble_eq_true rfl⟩) ⟨ro_P.blind, va_recv hK hP (ci := 0) (q0 := 0) rfl rfl, ro_P.at hP hK⟩ rfl rfl hl.1 rfl (lv_room (Nat.le_of_ble_eq_true rfl)) dX0_tile_60 ⟨Nat.le_of_ble_eq_true rfl, Nat.le_of_ble_eq_true rfl⟩) hP hS hA (fun H locs hP hS hz hk => ?_)
        refine W.widen (k := 1) (n := 6) (Nat.le_of_ble_eq_true rfl) (Nat.le_of_ble_eq_true rfl) ?_
        refine vx_ret ?_
        exact W.iret (v := tb_top fs fc a1) hx hb hr (fun t ht hW => ⟨⟨_, (fw, fh, fs, fc, fl, fe, fi, ft, fo, fa, an, af), rfl, (show ((0, (tb_top fs fc a1 : Int32), (fw, fh, fs, fc, fl, fe, fi, ft, fo, fa, an, af)) : Nat × Int32 × TBA) = tb_tile fw fh fs fc fl fe fi ft fo fa an af a1 a2 by unfold tb_tile; rw [if_neg c_1, if_neg c_2, if_pos c_3]), q1, cA, by rw [ht]; exact hP, va_K.moved hW.alike hK, hD⟩, hS.F ht⟩) hS.2.2 dX0_tile_63
      · rcases Classical.em (a2 = 2) with c_4 | c_4
        · refine lv_tableIn (off := 45) (tgt := 64) hx hb dX0_tile_19 (by rw [c_4]; decide) (by rw [c_4]; decide) (by rw [c_4]; rfl) (by decide) ?_
          refine lv_aload_n hx hb dX0_tile_64 rfl (lv_at hl 0 rfl) ?_
          refine lv_iload_n hx hb dX0_tile_65 rfl (lv_at hl 1 rfl) ?_
          refine ro_calli (va_runV (As := [.int a1]) (rest := []) ⟨hx, hb, hml, hown, hts⟩ (mtX0_leftOf l dC dI h0 q1 cA fw fh fs fc fl fe fi ft fo fa an af H.size a1) (cwV 1 hts (gb_v kw_244 kw_246 kw_8 kw_22 kw_247) rfl rfl rfl (by decide +kernel) ⟨Nat.le_of_ble_eq_true rfl, Nat.le_of_ble_eq_true rfl⟩) ⟨ro_P.blind, va_recv hK hP (ci := 0) (q0 := 0) rfl rfl, ro_P.at hP hK⟩ rfl rfl hl.1 rfl (lv_room (Nat.le_of_ble_eq_true rfl)) dX0_tile_66 ⟨Nat.le_of_ble_eq_true rfl, Nat.le_of_ble_eq_true rfl⟩) hP hS hA (fun H locs hP hS hz hk => ?_)
          refine lv_aload_n hx hb dX0_tile_69 rfl (lv_at hl 0 rfl) ?_
          refine ro_calli (va_runV (As := []) (rest := [.int (tb_left fs fc a1)]) ⟨hx, hb, hml, hown, hts⟩ (mtX0_sideLength l dC dI h0 q1 cA fw fh fs fc fl fe fi ft fo fa an af H.size ) (cwV 0 hts (gb_v kw_256 kw_258 kw_11 kw_22 kw_259) rfl rfl rfl (by decide +kernel) ⟨Nat.le_of_ble_eq_true rfl, Nat.le_of_ble_eq_true rfl⟩) ⟨ro_P.blind, va_recv hK hP (ci := 0) (q0 := 0) rfl rfl, ro_P.at hP hK⟩ rfl rfl hl.1 rfl (lv_room (Nat.le_of_ble_eq_true rfl)) dX0_tile_70 ⟨Nat.le_of_ble_eq_true rfl, Nat.le_of_ble_eq_true rfl⟩) hP hS hA (fun H locs hP hS hz hk => ?_)
          refine lv_iadd hx hb dX0_tile_73 ?_
          refine lv_aload_n hx hb dX0_tile_74 rfl (lv_at hl 0 rfl) ?_
          refine va_get (D := (dC, dI)) (ci := 0) (v := .int fw) (C := "TileBins") (T := TX0) (N := 11) hx hb hts inX0 hown hK hP 0 rfl rfl 0 (by decide) (hts _ kw_53) (fun _ h9 => h9) rfl dX0_tile_75 ?_
          refine va_mmin hx hb (hml.trans hl.1.symm) hown (hts _ kw_191) (hts _ kw_192) (hts _ kw_28) (hts _ kw_mmin) (Nat.le_of_ble_eq_true rfl) (Nat.le_of_ble_eq_true rfl) (Nat.le_of_ble_eq_true rfl) (Nat.le_of_ble_eq_true rfl) dX0_tile_78 ?_
          refine W.widen (k := 1) (n := 6) (Nat.le_of_ble_eq_true rfl) (Nat.le_of_ble_eq_true rfl) ?_
          refine vx_ret ?_
          exact W.iret (v := if fw < ((tb_left fs fc a1) + (tb_side fs)) then fw else ((tb_left fs fc a1) + (tb_side fs))) hx hb hr (fun t ht hW => ⟨⟨_, (fw, fh, fs, fc, fl, fe, fi, ft, fo, fa, an, af), rfl, (show ((0, (if fw < ((tb_left fs fc a1) + (tb_side fs)) then fw else ((tb_left fs fc a1) + (tb_side fs)) : Int32), (fw, fh, fs, fc, fl, fe, fi, ft, fo, fa, an, af)) : Nat × Int32 × TBA) = tb_tile fw fh fs fc fl fe fi ft fo fa an af a1 a2 by unfold tb_tile; rw [if_neg c_1, if_neg c_2, if_neg c_3, if_pos c_4]), q1, cA, by rw [ht]; exact hP, va_K.moved hW.alike hK, hD⟩, hS.F ht⟩) hS.2.2 dX0_tile_81
        · rcases Classical.em (a2 = 3) with c_5 | c_5
          · refine lv_tableIn (off := 63) (tgt := 82) hx hb dX0_tile_19 (by rw [c_5]; decide) (by rw [c_5]; decide) (by rw [c_5]; rfl) (by decide) ?_
            refine lv_aload_n hx hb dX0_tile_82 rfl (lv_at hl 0 rfl) ?_
            refine lv_iload_n hx hb dX0_tile_83 rfl (lv_at hl 1 rfl) ?_
            refine ro_calli (va_runV (As := [.int a1]) (rest := []) ⟨hx, hb, hml, hown, hts⟩ (mtX0_topOf l dC dI h0 q1 cA fw fh fs fc fl fe fi ft fo fa an af H.size a1) (cwV 1 hts (gb_v kw_248 kw_250 kw_9 kw_22 kw_251) rfl rfl rfl (by decide +kernel) ⟨Nat.le_of_ble_eq_true rfl, Nat.le_of_ble_eq_true rfl⟩) ⟨ro_P.blind, va_recv hK hP (ci := 0) (q0 := 0) rfl rfl, ro_P.at hP hK⟩ rfl rfl hl.1 rfl (lv_room (Nat.le_of_ble_eq_true rfl)) dX0_tile_84 ⟨Nat.le_of_ble_eq_true rfl, Nat.le_of_ble_eq_true rfl⟩) hP hS hA (fun H locs hP hS hz hk => ?_)
            refine lv_aload_n hx hb dX0_tile_87 rfl (lv_at hl 0 rfl) ?_
            refine ro_calli (va_runV (As := []) (rest := [.int (tb_top fs fc a1)]) ⟨hx, hb, hml, hown, hts⟩ (mtX0_sideLength l dC dI h0 q1 cA fw fh fs fc fl fe fi ft fo fa an af H.size ) (cwV 0 hts (gb_v kw_256 kw_258 kw_11 kw_22 kw_259) rfl rfl rfl (by decide +kernel) ⟨Nat.le_of_ble_eq_true rfl, Nat.le_of_ble_eq_true rfl⟩) ⟨ro_P.blind, va_recv hK hP (ci := 0) (q0 := 0) rfl rfl, ro_P.at hP hK⟩ rfl rfl hl.1 rfl (lv_room (Nat.le_of_ble_eq_true rfl)) dX0_tile_88 ⟨Nat.le_of_ble_eq_true rfl, Nat.le_of_ble_eq_true rfl⟩) hP hS hA (fun H locs hP hS hz hk => ?_)
            refine lv_iadd hx hb dX0_tile_91 ?_
            refine lv_aload_n hx hb dX0_tile_92 rfl (lv_at hl 0 rfl) ?_
            refine va_get (D := (dC, dI)) (ci := 0) (v := .int fh) (C := "TileBins") (T := TX0) (N := 11) hx hb hts inX0 hown hK hP 0 rfl rfl 1 (by decide) (hts _ kw_54) (fun _ h9 => h9) rfl dX0_tile_93 ?_
            refine va_mmin hx hb (hml.trans hl.1.symm) hown (hts _ kw_191) (hts _ kw_192) (hts _ kw_28) (hts _ kw_mmin) (Nat.le_of_ble_eq_true rfl) (Nat.le_of_ble_eq_true rfl) (Nat.le_of_ble_eq_true rfl) (Nat.le_of_ble_eq_true rfl) dX0_tile_96 ?_
            refine W.widen (k := 1) (n := 6) (Nat.le_of_ble_eq_true rfl) (Nat.le_of_ble_eq_true rfl) ?_
            refine vx_ret ?_
            exact W.iret (v := if fh < ((tb_top fs fc a1) + (tb_side fs)) then fh else ((tb_top fs fc a1) + (tb_side fs))) hx hb hr (fun t ht hW => ⟨⟨_, (fw, fh, fs, fc, fl, fe, fi, ft, fo, fa, an, af), rfl, (show ((0, (if fh < ((tb_top fs fc a1) + (tb_side fs)) then fh else ((tb_top fs fc a1) + (tb_side fs)) : Int32), (fw, fh, fs, fc, fl, fe, fi, ft, fo, fa, an, af)) : Nat × Int32 × TBA) = tb_tile fw fh fs fc fl fe fi ft fo fa an af a1 a2 by unfold tb_tile; rw [if_neg c_1, if_neg c_2, if_neg c_3, if_neg c_4, if_pos c_5]), q1, cA, by rw [ht]; exact hP, va_K.moved hW.alike hK, hD⟩, hS.F ht⟩) hS.2.2 dX0_tile_99
          · rcases Classical.em (a2 = 4) with c_6 | c_6
            · refine lv_tableIn (off := 81) (tgt := 100) hx hb dX0_tile_19 (by rw [c_6]; decide) (by rw [c_6]; decide) (by rw [c_6]; rfl) (by decide) ?_
              refine lv_aload_n hx hb dX0_tile_100 rfl (lv_at hl 0 rfl) ?_
              refine lv_iload_n hx hb dX0_tile_101 rfl (lv_at hl 1 rfl) ?_
              refine ro_calli (va_runV (As := [.int a1]) (rest := []) ⟨hx, hb, hml, hown, hts⟩ (mtX0_itemsTouching l dC dI h0 q1 cA fw fh fs fc fl fe fi ft fo fa an af H.size a1 N hN hNb han) (cwV 1 hts (gb_v kw_240 kw_242 kw_7 kw_22 kw_243) rfl rfl rfl (by decide +kernel) ⟨Nat.le_of_ble_eq_true rfl, Nat.le_of_ble_eq_true rfl⟩) ⟨ro_P.blind, va_recv hK hP (ci := 0) (q0 := 0) rfl rfl, ro_P.at hP hK⟩ rfl rfl hl.1 rfl (lv_room (Nat.le_of_ble_eq_true rfl)) dX0_tile_102 ⟨Nat.le_of_ble_eq_true rfl, Nat.le_of_ble_eq_true rfl⟩) hP hS hA (fun H locs hP hS hz hk => ?_)
              refine W.widen (k := 1) (n := 6) (Nat.le_of_ble_eq_true rfl) (Nat.le_of_ble_eq_true rfl) ?_
              refine vx_ret ?_
              exact W.iret (v := tb_many fs fc fi af a1) hx hb hr (fun t ht hW => ⟨⟨_, (fw, fh, fs, fc, fl, fe, fi, ft, fo, fa, an, af), rfl, (show ((0, (tb_many fs fc fi af a1 : Int32), (fw, fh, fs, fc, fl, fe, fi, ft, fo, fa, an, af)) : Nat × Int32 × TBA) = tb_tile fw fh fs fc fl fe fi ft fo fa an af a1 a2 by unfold tb_tile; rw [if_neg c_1, if_neg c_2, if_neg c_3, if_neg c_4, if_neg c_5, if_pos c_6]), q1, cA, by rw [ht]; exact hP, va_K.moved hW.alike hK, hD⟩, hS.F ht⟩) hS.2.2 dX0_tile_105
            · refine lv_tableOut (tgt := 106) hx hb dX0_tile_19 (sw_out5 c_2 c_3 c_4 c_5 c_6) (by decide) ?_
              obtain ⟨sa_7, hsa_8⟩ := hZ.str (115, "of a tile there is 0 to 4") (by decide +kernel)
              exact vx_throwS (rest := []) (mc := 1) (ms := 6) hx hb hl9 (own := "TileBins") (cls := "java/lang/IllegalArgumentException") (text := "of a tile there is 0 to 4") (names := ["java/lang/RuntimeException", "java/lang/Exception"]) hown (by decide +kernel) (by decide +kernel) (hts _ kw_103) (hts _ kw_27) hsa_8 (vx_hat (fun w hw => hts w (hx_Aa w hw)) hx_Ab hZ.bad) hx_Ac hZ.u hZ.n hS (hl.1.trans hml.symm) dX0_tile_106 dX0_tile_109 dX0_tile_110 dX0_tile_112 dX0_tile_115 (fun x hx => (hEx x hx).elim) (Nat.le_of_ble_eq_true rfl) (Nat.le_of_ble_eq_true rfl) (Nat.le_of_ble_eq_true rfl) (Nat.le_of_ble_eq_true rfl) hlocks (fun t ha hz hk => ⟨(1, (fw, fh, fs, fc, fl, fe, fi, ft, fo, fa, an, af)), (show ((1 : Nat), (0 : Int32), ((fw, fh, fs, fc, fl, fe, fi, ft, fo, fa, an, af) : TBA)) = tb_tile fw fh fs fc fl fe fi ft fo fa an af a1 a2 by unfold tb_tile; rw [if_neg c_1, if_neg c_2, if_neg c_3, if_neg c_4, if_neg c_5, if_neg c_6]), ⟨rfl, q1, cA, ro_kept hP hk, va_K.moved ha hK, hD⟩, th_F hS hz hk⟩) hS.2.2 (Nat.le_of_ble_eq_true rfl) (Nat.le_of_ble_eq_true rfl)
  · obtain ⟨sa_9, hsa_10⟩ := hZ.str (83, "there is no such tile") (by decide +kernel)
    exact vx_throwS (rest := []) (mc := 1) (ms := 6) hx hb hl9 (own := "TileBins") (cls := "java/lang/IllegalArgumentException") (text := "there is no such tile") (names := ["java/lang/RuntimeException", "java/lang/Exception"]) hown (by decide +kernel) (by decide +kernel) (hts _ kw_103) (hts _ kw_27) hsa_10 (vx_hat (fun w hw => hts w (hx_Aa w hw)) hx_Ab hZ.bad) hx_Ac hZ.u hZ.n hS (hl.1.trans hml.symm) dX0_tile_8 dX0_tile_11 dX0_tile_12 dX0_tile_14 dX0_tile_17 (fun x hx => (hEx x hx).elim) (Nat.le_of_ble_eq_true rfl) (Nat.le_of_ble_eq_true rfl) (Nat.le_of_ble_eq_true rfl) (Nat.le_of_ble_eq_true rfl) hlocks (fun t ha hz hk => ⟨(1, (fw, fh, fs, fc, fl, fe, fi, ft, fo, fa, an, af)), (show ((1 : Nat), (0 : Int32), ((fw, fh, fs, fc, fl, fe, fi, ft, fo, fa, an, af) : TBA)) = tb_tile fw fh fs fc fl fe fi ft fo fa an af a1 a2 by unfold tb_tile; rw [if_pos c_1]), ⟨rfl, q1, cA, ro_kept hP hk, va_K.moved ha hK, hD⟩, th_F hS hz hk⟩) hS.2.2 (Nat.le_of_ble_eq_true rfl) (Nat.le_of_ble_eq_true rfl)
def tb_tileOf (fw fh fs fc fl fe fi ft fo fa : Int32) (an : Nat) (af : Nat → Int32) (a1 a2 : Int32) : Nat × Int32 × TBA := (if a1 < 0 then (1, 0, (fw, fh, fs, fc, fl, fe, fi, ft, fo, fa, an, af)) else (if fw ≤ a1 then (1, 0, (fw, fh, fs, fc, fl, fe, fi, ft, fo, fa, an, af)) else (if a2 < 0 then (1, 0, (fw, fh, fs, fc, fl, fe, fi, ft, fo, fa, an, af)) else (if a2 < fh then (0, ((a2 >>> (fs &&& 31)) * fc) + (a1 >>> (fs &&& 31)), (fw, fh, fs, fc, fl, fe, fi, ft, fo, fa, an, af)) else (1, 0, (fw, fh, fs, fc, fl, fe, fi, ft, fo, fa, an, af))))))
set_option maxHeartbeats 4000000 in
set_option maxRecDepth 100000 in
theorem mtX0_tileOf (l : Launch) (hl9 : l.stackTraces = false) (dC : Nat → ClassId) (dI : Nat → Nat → Nat) (h0 q1 : Nat) (cA : ClassId) (fw fh fs fc fl fe fi ft fo fa : Int32) (an : Nat) (af : Nat → Int32) (sz : Nat) (a1 a2 : Int32) : vx_Met l yX0_tileOf wsX0_tileOf ({ frames := 6, cells := 1, slots := 6, locals := 91 }) (va_Pc [.ref h0, .int a1, .int a2] (zz_P (dC, dI) vwCl [(h0, .inr (0, [.int fw, .int fh, .int fs, .int fc, .int fl, .int fe, .ref q1, .int fi, .int ft, .int fo, .int fa])), (q1, .inl (cA, an, .inl af))] [(cA, .int)] sz)) (va_Qi (fun (r : Int32) (u : TBA) => (0, r, u) = tb_tileOf fw fh fs fc fl fe fi ft fo fa an af a1 a2) (tbAt (dC, dI) (va_A [(h0, .inr (0, [.int fw, .int fh, .int fs, .int fc, .int fl, .int fe, .ref q1, .int fi, .int ft, .int fo, .int fa])), (q1, .inl (cA, an, .inl af))] sz) h0) (va_A [(h0, .inr (0, [.int fw, .int fh, .int fs, .int fc, .int fl, .int fe, .ref q1, .int fi, .int ft, .int fo, .int fa])), (q1, .inl (cA, an, .inl af))] sz)) (vx_X (fun (u : Nat × TBA) => (u.1, (0 : Int32), u.2) = tb_tileOf fw fh fs fc fl fe fi ft fo fa an af a1 a2) (fun E u t => E = tb_exa u.1 ∧ tbAt (dC, dI) (va_A [(h0, .inr (0, [.int fw, .int fh, .int fs, .int fc, .int fl, .int fe, .ref q1, .int fi, .int ft, .int fo, .int fa])), (q1, .inl (cA, an, .inl af))] sz) h0 u.2 t) (va_A [(h0, .inr (0, [.int fw, .int fh, .int fs, .int fc, .int fl, .int fe, .ref q1, .int fi, .int ft, .int fo, .int fa])), (q1, .inl (cA, an, .inl af))] sz)) 1 6 (va_A [(h0, .inr (0, [.int fw, .int fh, .int fs, .int fc, .int fl, .int fe, .ref q1, .int fi, .int ft, .int fo, .int fa])), (q1, .inl (cA, an, .inl af))] sz) := by
  refine vx_ofW (cc := cX0_tileOf) (maxL := 3) (ret := (some .int)) (by decide) rfl ?_
  intro p e s m args below meth c s₁ B hml hEx hv
  obtain ⟨rfl, ⟨hsz, hP, hK, hD0⟩, hZ⟩ := hv
  have hx := B.exec
  have hb := B.bytes
  have hr := B.returns
  have hts : ∀ w ∈ gb, w.before _ s = true := fun w h => atoms_spec (ws := wsX0_tileOf) B.pre w (List.mem_cons_of_mem _ h)
  have hown : s.vm.findClass "TileBins" = some m.cls := findClass_of_methodNamed B.named
  have hlocks := B.notSynchronized
  subst hsz
  have hD := hD0.self (sz := s.heap.size)
  generalize hAe : va_A [(h0, .inr (0, [.int fw, .int fh, .int fs, .int fc, .int fl, .int fe, .ref q1, .int fi, .int ft, .int fo, .int fa])), (q1, .inl (cA, an, .inl af))] s.heap.size = A at hD hZ ⊢
  have hA : ∀ q : Nat, s.heap.size ≤ q → A q := fun q h => by rw [← hAe]; exact Or.inr h
  have hS : va_S A s.heap s.heap [] := va_S.rf
  have hP : va_P (dC, dI) vwCl [(h0, .inr (0, [.int fw, .int fh, .int fs, .int fc, .int fl, .int fe, .ref q1, .int fi, .int ft, .int fo, .int fa])), (q1, .inl (cA, an, .inl af))] s.heap := hP
  have hl := lv_entry ([.ref h0, .int a1, .int a2]) (n := 3) (Nat.le_of_ble_eq_true rfl)
  rw [lg_entry_eq]
  generalize (lg_sl ([.ref h0, .int a1, .int a2]) ++ List.replicate (3 - (lg_sl ([.ref h0, .int a1, .int a2])).length) Slot.unset).toArray = ls at hl ⊢
  have hl : lv_has ls 3 [(0, .ref h0), (1, .int a1), (2, .int a2)] := hl
  refine lv_iload_n hx hb dX0_tileOf_0 rfl (lv_at hl 1 rfl) ?_
  refine lv_if_lt (tgt := 24) hx hb dX0_tileOf_1 (by decide) (fun c_1 => ?_) (fun c_1 => ?_)
  · obtain ⟨sa_2, hsa_3⟩ := hZ.str (117, "the place is not in the field") (by decide +kernel)
    exact vx_throwS (rest := []) (mc := 1) (ms := 6) hx hb hl9 (own := "TileBins") (cls := "java/lang/IllegalArgumentException") (text := "the place is not in the field") (names := ["java/lang/RuntimeException", "java/lang/Exception"]) hown (by decide +kernel) (by decide +kernel) (hts _ kw_103) (hts _ kw_27) hsa_3 (vx_hat (fun w hw => hts w (hx_Aa w hw)) hx_Ab hZ.bad) hx_Ac hZ.u hZ.n hS (hl.1.trans hml.symm) dX0_tileOf_24 dX0_tileOf_27 dX0_tileOf_28 dX0_tileOf_30 dX0_tileOf_33 (fun x hx => (hEx x hx).elim) (Nat.le_of_ble_eq_true rfl) (Nat.le_of_ble_eq_true rfl) (Nat.le_of_ble_eq_true rfl) (Nat.le_of_ble_eq_true rfl) hlocks (fun t ha hz hk => ⟨(1, (fw, fh, fs, fc, fl, fe, fi, ft, fo, fa, an, af)), (show ((1 : Nat), (0 : Int32), ((fw, fh, fs, fc, fl, fe, fi, ft, fo, fa, an, af) : TBA)) = tb_tileOf fw fh fs fc fl fe fi ft fo fa an af a1 a2 by unfold tb_tileOf; rw [if_pos c_1]), ⟨rfl, q1, cA, ro_kept hP hk, va_K.moved ha hK, hD⟩, th_F hS hz hk⟩) hS.2.2 (Nat.le_of_ble_eq_true rfl) (Nat.le_of_ble_eq_true rfl)
  · refine lv_iload_n hx hb dX0_tileOf_4 rfl (lv_at hl 1 rfl) ?_
    refine lv_aload_n hx hb dX0_tileOf_5 rfl (lv_at hl 0 rfl) ?_
    refine va_get (D := (dC, dI)) (ci := 0) (v := .int fw) (C := "TileBins") (T := TX0) (N := 11) hx hb hts inX0 hown hK hP 0 rfl rfl 0 (by decide) (hts _ kw_53) (fun _ h9 => h9) rfl dX0_tileOf_6 ?_
    refine lv_icmp_ge (tgt := 24) hx hb dX0_tileOf_9 (by decide) (fun c_4 => ?_) (fun c_4 => ?_)
    · obtain ⟨sa_5, hsa_6⟩ := hZ.str (117, "the place is not in the field") (by decide +kernel)
      exact vx_throwS (rest := []) (mc := 1) (ms := 6) hx hb hl9 (own := "TileBins") (cls := "java/lang/IllegalArgumentException") (text := "the place is not in the field") (names := ["java/lang/RuntimeException", "java/lang/Exception"]) hown (by decide +kernel) (by decide +kernel) (hts _ kw_103) (hts _ kw_27) hsa_6 (vx_hat (fun w hw => hts w (hx_Aa w hw)) hx_Ab hZ.bad) hx_Ac hZ.u hZ.n hS (hl.1.trans hml.symm) dX0_tileOf_24 dX0_tileOf_27 dX0_tileOf_28 dX0_tileOf_30 dX0_tileOf_33 (fun x hx => (hEx x hx).elim) (Nat.le_of_ble_eq_true rfl) (Nat.le_of_ble_eq_true rfl) (Nat.le_of_ble_eq_true rfl) (Nat.le_of_ble_eq_true rfl) hlocks (fun t ha hz hk => ⟨(1, (fw, fh, fs, fc, fl, fe, fi, ft, fo, fa, an, af)), (show ((1 : Nat), (0 : Int32), ((fw, fh, fs, fc, fl, fe, fi, ft, fo, fa, an, af) : TBA)) = tb_tileOf fw fh fs fc fl fe fi ft fo fa an af a1 a2 by unfold tb_tileOf; rw [if_neg c_1, if_pos c_4]), ⟨rfl, q1, cA, ro_kept hP hk, va_K.moved ha hK, hD⟩, th_F hS hz hk⟩) hS.2.2 (Nat.le_of_ble_eq_true rfl) (Nat.le_of_ble_eq_true rfl)
    · refine lv_iload_n hx hb dX0_tileOf_12 rfl (lv_at hl 2 rfl) ?_
      refine lv_if_lt (tgt := 24) hx hb dX0_tileOf_13 (by decide) (fun c_7 => ?_) (fun c_7 => ?_)
      · obtain ⟨sa_8, hsa_9⟩ := hZ.str (117, "the place is not in the field") (by decide +kernel)
        exact vx_throwS (rest := []) (mc := 1) (ms := 6) hx hb hl9 (own := "TileBins") (cls := "java/lang/IllegalArgumentException") (text := "the place is not in the field") (names := ["java/lang/RuntimeException", "java/lang/Exception"]) hown (by decide +kernel) (by decide +kernel) (hts _ kw_103) (hts _ kw_27) hsa_9 (vx_hat (fun w hw => hts w (hx_Aa w hw)) hx_Ab hZ.bad) hx_Ac hZ.u hZ.n hS (hl.1.trans hml.symm) dX0_tileOf_24 dX0_tileOf_27 dX0_tileOf_28 dX0_tileOf_30 dX0_tileOf_33 (fun x hx => (hEx x hx).elim) (Nat.le_of_ble_eq_true rfl) (Nat.le_of_ble_eq_true rfl) (Nat.le_of_ble_eq_true rfl) (Nat.le_of_ble_eq_true rfl) hlocks (fun t ha hz hk => ⟨(1, (fw, fh, fs, fc, fl, fe, fi, ft, fo, fa, an, af)), (show ((1 : Nat), (0 : Int32), ((fw, fh, fs, fc, fl, fe, fi, ft, fo, fa, an, af) : TBA)) = tb_tileOf fw fh fs fc fl fe fi ft fo fa an af a1 a2 by unfold tb_tileOf; rw [if_neg c_1, if_neg c_4, if_pos c_7]), ⟨rfl, q1, cA, ro_kept hP hk, va_K.moved ha hK, hD⟩, th_F hS hz hk⟩) hS.2.2 (Nat.le_of_ble_eq_true rfl) (Nat.le_of_ble_eq_true rfl)
      · refine lv_iload_n hx hb dX0_tileOf_16 rfl (lv_at hl 2 rfl) ?_
        refine lv_aload_n hx hb dX0_tileOf_17 rfl (lv_at hl 0 rfl) ?_
        refine va_get (D := (dC, dI)) (ci := 0) (v := .int fh) (C := "TileBins") (T := TX0) (N := 11) hx hb hts inX0 hown hK hP 0 rfl rfl 1 (by decide) (hts _ kw_54) (fun _ h9 => h9) rfl dX0_tileOf_18 ?_
        refine lv_icmp_lt (tgt := 34) hx hb dX0_tileOf_21 (by decide) (fun c_10 => ?_) (fun c_10 => ?_)
        · refine lv_iload_n hx hb dX0_tileOf_34 rfl (lv_at hl 2 rfl) ?_
          refine lv_aload_n hx hb dX0_tileOf_35 rfl (lv_at hl 0 rfl) ?_
          refine va_get (D := (dC, dI)) (ci := 0) (v := .int fs) (C := "TileBins") (T := TX0) (N := 11) hx hb hts inX0 hown hK hP 0 rfl rfl 2 (by decide) (hts _ kw_55) (fun _ h9 => h9) rfl dX0_tileOf_36 ?_
          refine lv_ishr hx hb dX0_tileOf_39 ?_
          refine lv_aload_n hx hb dX0_tileOf_40 rfl (lv_at hl 0 rfl) ?_
          refine va_get (D := (dC, dI)) (ci := 0) (v := .int fc) (C := "TileBins") (T := TX0) (N := 11) hx hb hts inX0 hown hK hP 0 rfl rfl 3 (by decide) (hts _ kw_56) (fun _ h9 => h9) rfl dX0_tileOf_41 ?_
          refine lv_imul hx hb dX0_tileOf_44 ?_
          refine lv_iload_n hx hb dX0_tileOf_45 rfl (lv_at hl 1 rfl) ?_
          refine lv_aload_n hx hb dX0_tileOf_46 rfl (lv_at hl 0 rfl) ?_
          refine va_get (D := (dC, dI)) (ci := 0) (v := .int fs) (C := "TileBins") (T := TX0) (N := 11) hx hb hts inX0 hown hK hP 0 rfl rfl 2 (by decide) (hts _ kw_55) (fun _ h9 => h9) rfl dX0_tileOf_47 ?_
          refine lv_ishr hx hb dX0_tileOf_50 ?_
          refine lv_iadd hx hb dX0_tileOf_51 ?_
          refine W.widen (k := 1) (n := 6) (Nat.le_of_ble_eq_true rfl) (Nat.le_of_ble_eq_true rfl) ?_
          refine vx_ret ?_
          exact W.iret (v := ((a2 >>> (fs &&& 31)) * fc) + (a1 >>> (fs &&& 31))) hx hb hr (fun t ht hW => ⟨⟨_, (fw, fh, fs, fc, fl, fe, fi, ft, fo, fa, an, af), rfl, (show ((0, (((a2 >>> (fs &&& 31)) * fc) + (a1 >>> (fs &&& 31)) : Int32), (fw, fh, fs, fc, fl, fe, fi, ft, fo, fa, an, af)) : Nat × Int32 × TBA) = tb_tileOf fw fh fs fc fl fe fi ft fo fa an af a1 a2 by unfold tb_tileOf; rw [if_neg c_1, if_neg c_4, if_neg c_7, if_pos c_10]), q1, cA, by rw [ht]; exact hP, va_K.moved hW.alike hK, hD⟩, hS.F ht⟩) hS.2.2 dX0_tileOf_52
        · obtain ⟨sa_11, hsa_12⟩ := hZ.str (117, "the place is not in the field") (by decide +kernel)
          exact vx_throwS (rest := []) (mc := 1) (ms := 6) hx hb hl9 (own := "TileBins") (cls := "java/lang/IllegalArgumentException") (text := "the place is not in the field") (names := ["java/lang/RuntimeException", "java/lang/Exception"]) hown (by decide +kernel) (by decide +kernel) (hts _ kw_103) (hts _ kw_27) hsa_12 (vx_hat (fun w hw => hts w (hx_Aa w hw)) hx_Ab hZ.bad) hx_Ac hZ.u hZ.n hS (hl.1.trans hml.symm) dX0_tileOf_24 dX0_tileOf_27 dX0_tileOf_28 dX0_tileOf_30 dX0_tileOf_33 (fun x hx => (hEx x hx).elim) (Nat.le_of_ble_eq_true rfl) (Nat.le_of_ble_eq_true rfl) (Nat.le_of_ble_eq_true rfl) (Nat.le_of_ble_eq_true rfl) hlocks (fun t ha hz hk => ⟨(1, (fw, fh, fs, fc, fl, fe, fi, ft, fo, fa, an, af)), (show ((1 : Nat), (0 : Int32), ((fw, fh, fs, fc, fl, fe, fi, ft, fo, fa, an, af) : TBA)) = tb_tileOf fw fh fs fc fl fe fi ft fo fa an af a1 a2 by unfold tb_tileOf; rw [if_neg c_1, if_neg c_4, if_neg c_7, if_neg c_10]), ⟨rfl, q1, cA, ro_kept hP hk, va_K.moved ha hK, hD⟩, th_F hS hz hk⟩) hS.2.2 (Nat.le_of_ble_eq_true rfl) (Nat.le_of_ble_eq_true rfl)
def tb_count (fw fh fs fc fl fe fi ft fo fa : Int32) (an : Nat) (af : Nat → Int32) (a1 : Int32) : Nat × Int32 × TBA := (if a1 = 0 then (0, fi, (fw, fh, fs, fc, fl, fe, fi, ft, fo, fa, an, af)) else (if a1 = 1 then (0, ft, (fw, fh, fs, fc, fl, fe, fi, ft, fo, fa, an, af)) else (if a1 = 2 then (0, fe, (fw, fh, fs, fc, fl, fe, fi, ft, fo, fa, an, af)) else (if a1 = 3 then (0, tb_tiles fc fl, (fw, fh, fs, fc, fl, fe, fi, ft, fo, fa, an, af)) else (if a1 = 4 then (0, fo, (fw, fh, fs, fc, fl, fe, fi, ft, fo, fa, an, af)) else (1, 0, (fw, fh, fs, fc, fl, fe, fi, ft, fo, fa, an, af)))))))
set_option maxHeartbeats 4000000 in
set_option maxRecDepth 100000 in
theorem mtX0_count (l : Launch) (hl9 : l.stackTraces = false) (dC : Nat → ClassId) (dI : Nat → Nat → Nat) (h0 q1 : Nat) (cA : ClassId) (fw fh fs fc fl fe fi ft fo fa : Int32) (an : Nat) (af : Nat → Int32) (sz : Nat) (a1 : Int32) : vx_Met l yX0_count wsX0_count ({ frames := 6, cells := 1, slots := 6, locals := 91 }) (va_Pc [.ref h0, .int a1] (zz_P (dC, dI) vwCl [(h0, .inr (0, [.int fw, .int fh, .int fs, .int fc, .int fl, .int fe, .ref q1, .int fi, .int ft, .int fo, .int fa])), (q1, .inl (cA, an, .inl af))] [(cA, .int)] sz)) (va_Qi (fun (r : Int32) (u : TBA) => (0, r, u) = tb_count fw fh fs fc fl fe fi ft fo fa an af a1) (tbAt (dC, dI) (va_A [(h0, .inr (0, [.int fw, .int fh, .int fs, .int fc, .int fl, .int fe, .ref q1, .int fi, .int ft, .int fo, .int fa])), (q1, .inl (cA, an, .inl af))] sz) h0) (va_A [(h0, .inr (0, [.int fw, .int fh, .int fs, .int fc, .int fl, .int fe, .ref q1, .int fi, .int ft, .int fo, .int fa])), (q1, .inl (cA, an, .inl af))] sz)) (vx_X (fun (u : Nat × TBA) => (u.1, (0 : Int32), u.2) = tb_count fw fh fs fc fl fe fi ft fo fa an af a1) (fun E u t => E = tb_exa u.1 ∧ tbAt (dC, dI) (va_A [(h0, .inr (0, [.int fw, .int fh, .int fs, .int fc, .int fl, .int fe, .ref q1, .int fi, .int ft, .int fo, .int fa])), (q1, .inl (cA, an, .inl af))] sz) h0 u.2 t) (va_A [(h0, .inr (0, [.int fw, .int fh, .int fs, .int fc, .int fl, .int fe, .ref q1, .int fi, .int ft, .int fo, .int fa])), (q1, .inl (cA, an, .inl af))] sz)) 1 6 (va_A [(h0, .inr (0, [.int fw, .int fh, .int fs, .int fc, .int fl, .int fe, .ref q1, .int fi, .int ft, .int fo, .int fa])), (q1, .inl (cA, an, .inl af))] sz) := by
  refine vx_ofW (cc := cX0_count) (maxL := 2) (ret := (some .int)) (by decide) rfl ?_
  intro p e s m args below meth c s₁ B hml hEx hv
  obtain ⟨rfl, ⟨hsz, hP, hK, hD0⟩, hZ⟩ := hv
  have hx := B.exec
  have hb := B.bytes
  have hr := B.returns
  have hts : ∀ w ∈ gb, w.before _ s = true := fun w h => atoms_spec (ws := wsX0_count) B.pre w (List.mem_cons_of_mem _ h)
  have hown : s.vm.findClass "TileBins" = some m.cls := findClass_of_methodNamed B.named
  have hlocks := B.notSynchronized
  subst hsz
  have hD := hD0.self (sz := s.heap.size)
  generalize hAe : va_A [(h0, .inr (0, [.int fw, .int fh, .int fs, .int fc, .int fl, .int fe, .ref q1, .int fi, .int ft, .int fo, .int fa])), (q1, .inl (cA, an, .inl af))] s.heap.size = A at hD hZ ⊢
  have hA : ∀ q : Nat, s.heap.size ≤ q → A q := fun q h => by rw [← hAe]; exact Or.inr h
  have hS : va_S A s.heap s.heap [] := va_S.rf
  have hP : va_P (dC, dI) vwCl [(h0, .inr (0, [.int fw, .int fh, .int fs, .int fc, .int fl, .int fe, .ref q1, .int fi, .int ft, .int fo, .int fa])), (q1, .inl (cA, an, .inl af))] s.heap := hP
  have hl := lv_entry ([.ref h0, .int a1]) (n := 2) (Nat.le_of_ble_eq_true rfl)
  rw [lg_entry_eq]
  generalize (lg_sl ([.ref h0, .int a1]) ++ List.replicate (2 - (lg_sl ([.ref h0, .int a1])).length) Slot.unset).toArray = ls at hl ⊢
  have hl : lv_has ls 2 [(0, .ref h0), (1, .int a1)] := hl
  refine lv_iload_n hx hb dX0_count_0 rfl (lv_at hl 1 rfl) ?_
  rcases Classical.em (a1 = 0) with c_1 | c_1
  · refine lv_tableIn (off := 35) (tgt := 36) hx hb dX0_count_1 (by rw [c_1]; decide) (by rw [c_1]; decide) (by rw [c_1]; rfl) (by decide) ?_
    refine lv_aload_n hx hb dX0_count_36 rfl (lv_at hl 0 rfl) ?_
    refine va_get (D := (dC, dI)) (ci := 0) (v := .int fi) (C := "TileBins") (T := TX0) (N := 11) hx hb hts inX0 hown hK hP 0 rfl rfl 7 (by decide) (hts _ kw_60) (fun _ h9 => h9) rfl dX0_count_37 ?_
    refine W.widen (k := 1) (n := 6) (Nat.le_of_ble_eq_true rfl) (Nat.le_of_ble_eq_true rfl) ?_
    refine vx_ret ?_
    exact W.iret (v := fi) hx hb hr (fun t ht hW => ⟨⟨_, (fw, fh, fs, fc, fl, fe, fi, ft, fo, fa, an, af), rfl, (show ((0, (fi : Int32), (fw, fh, fs, fc, fl, fe, fi, ft, fo, fa, an, af)) : Nat × Int32 × TBA) = tb_count fw fh fs fc fl fe fi ft fo fa an af a1 by unfold tb_count; rw [if_pos c_1]), q1, cA, by rw [ht]; exact hP, va_K.moved hW.alike hK, hD⟩, hS.F ht⟩) hS.2.2 dX0_count_40
  · rcases Classical.em (a1 = 1) with c_2 | c_2
    · refine lv_tableIn (off := 40) (tgt := 41) hx hb dX0_count_1 (by rw [c_2]; decide) (by rw [c_2]; decide) (by rw [c_2]; rfl) (by decide) ?_
      refine lv_aload_n hx hb dX0_count_41 rfl (lv_at hl 0 rfl) ?_
      refine va_get (D := (dC, dI)) (ci := 0) (v := .int ft) (C := "TileBins") (T := TX0) (N := 11) hx hb hts inX0 hown hK hP 0 rfl rfl 8 (by decide) (hts _ kw_61) (fun _ h9 => h9) rfl dX0_count_42 ?_
      refine W.widen (k := 1) (n := 6) (Nat.le_of_ble_eq_true rfl) (Nat.le_of_ble_eq_true rfl) ?_
      refine vx_ret ?_
      exact W.iret (v := ft) hx hb hr (fun t ht hW => ⟨⟨_, (fw, fh, fs, fc, fl, fe, fi, ft, fo, fa, an, af), rfl, (show ((0, (ft : Int32), (fw, fh, fs, fc, fl, fe, fi, ft, fo, fa, an, af)) : Nat × Int32 × TBA) = tb_count fw fh fs fc fl fe fi ft fo fa an af a1 by unfold tb_count; rw [if_neg c_1, if_pos c_2]), q1, cA, by rw [ht]; exact hP, va_K.moved hW.alike hK, hD⟩, hS.F ht⟩) hS.2.2 dX0_count_45
    · rcases Classical.em (a1 = 2) with c_3 | c_3
      · refine lv_tableIn (off := 45) (tgt := 46) hx hb dX0_count_1 (by rw [c_3]; decide) (by rw [c_3]; decide) (by rw [c_3]; rfl) (by decide) ?_
        refine lv_aload_n hx hb dX0_count_46 rfl (lv_at hl 0 rfl) ?_
        refine va_get (D := (dC, dI)) (ci := 0) (v := .int fe) (C := "TileBins") (T := TX0) (N := 11) hx hb hts inX0 hown hK hP 0 rfl rfl 5 (by decide) (hts _ kw_58) (fun _ h9 => h9) rfl dX0_count_47 ?_
        refine W.widen (k := 1) (n := 6) (Nat.le_of_ble_eq_true rfl) (Nat.le_of_ble_eq_true rfl) ?_
        refine vx_ret ?_
        exact W.iret (v := fe) hx hb hr (fun t ht hW => ⟨⟨_, (fw, fh, fs, fc, fl, fe, fi, ft, fo, fa, an, af), rfl, (show ((0, (fe : Int32), (fw, fh, fs, fc, fl, fe, fi, ft, fo, fa, an, af)) : Nat × Int32 × TBA) = tb_count fw fh fs fc fl fe fi ft fo fa an af a1 by unfold tb_count; rw [if_neg c_1, if_neg c_2, if_pos c_3]), q1, cA, by rw [ht]; exact hP, va_K.moved hW.alike hK, hD⟩, hS.F ht⟩) hS.2.2 dX0_count_50
      · rcases Classical.em (a1 = 3) with c_4 | c_4
        · refine lv_tableIn (off := 50) (tgt := 51) hx hb dX0_count_1 (by rw [c_4]; decide) (by rw [c_4]; decide) (by rw [c_4]; rfl) (by decide) ?_
          refine lv_aload_n hx hb dX0_count_51 rfl (lv_at hl 0 rfl) ?_
          refine ro_calli (va_runV (As := []) (rest := []) ⟨hx, hb, hml, hown, hts⟩ (mtX0_tilesInAll l dC dI h0 q1 cA fw fh fs fc fl fe fi ft fo fa an af s.heap.size ) (cwV 0 hts (gb_v kw_176 kw_178 kw_4 kw_22 kw_179) rfl rfl rfl (by decide +kernel) ⟨Nat.le_of_ble_eq_true rfl, Nat.le_of_ble_eq_true rfl⟩) ⟨ro_P.blind, va_recv hK hP (ci := 0) (q0 := 0) rfl rfl, ro_P.at hP hK⟩ rfl rfl hl.1 rfl (lv_room (Nat.le_of_ble_eq_true rfl)) dX0_count_52 ⟨Nat.le_of_ble_eq_true rfl, Nat.le_of_ble_eq_true rfl⟩) hP hS hA (fun H locs hP hS hz hk => ?_)
          refine W.widen (k := 1) (n := 6) (Nat.le_of_ble_eq_true rfl) (Nat.le_of_ble_eq_true rfl) ?_
          refine vx_ret ?_
          exact W.iret (v := tb_tiles fc fl) hx hb hr (fun t ht hW => ⟨⟨_, (fw, fh, fs, fc, fl, fe, fi, ft, fo, fa, an, af), rfl, (show ((0, (tb_tiles fc fl : Int32), (fw, fh, fs, fc, fl, fe, fi, ft, fo, fa, an, af)) : Nat × Int32 × TBA) = tb_count fw fh fs fc fl fe fi ft fo fa an af a1 by unfold tb_count; rw [if_neg c_1, if_neg c_2, if_neg c_3, if_pos c_4]), q1, cA, by rw [ht]; exact hP, va_K.moved hW.alike hK, hD⟩, hS.F ht⟩) hS.2.2 dX0_count_55
        · rcases Classical.em (a1 = 4) with c_5 | c_5
          · refine lv_tableIn (off := 55) (tgt := 56) hx hb dX0_count_1 (by rw [c_5]; decide) (by rw [c_5]; decide) (by rw [c_5]; rfl) (by decide) ?_
            refine lv_aload_n hx hb dX0_count_56 rfl (lv_at hl 0 rfl) ?_
            refine va_get (D := (dC, dI)) (ci := 0) (v := .int fo) (C := "TileBins") (T := TX0) (N := 11) hx hb hts inX0 hown hK hP 0 rfl rfl 9 (by decide) (hts _ kw_62) (fun _ h9 => h9) rfl dX0_count_57 ?_
            refine W.widen (k := 1) (n := 6) (Nat.le_of_ble_eq_true rfl) (Nat.le_of_ble_eq_true rfl) ?_
            refine vx_ret ?_
            exact W.iret (v := fo) hx hb hr (fun t ht hW => ⟨⟨_, (fw, fh, fs, fc, fl, fe, fi, ft, fo, fa, an, af), rfl, (show ((0, (fo : Int32), (fw, fh, fs, fc, fl, fe, fi, ft, fo, fa, an, af)) : Nat × Int32 × TBA) = tb_count fw fh fs fc fl fe fi ft fo fa an af a1 by unfold tb_count; rw [if_neg c_1, if_neg c_2, if_neg c_3, if_neg c_4, if_pos c_5]), q1, cA, by rw [ht]; exact hP, va_K.moved hW.alike hK, hD⟩, hS.F ht⟩) hS.2.2 dX0_count_60
          · refine lv_tableOut (tgt := 61) hx hb dX0_count_1 (sw_out5 c_1 c_2 c_3 c_4 c_5) (by decide) ?_
            obtain ⟨sa_6, hsa_7⟩ := hZ.str (125, "there is a count of 0 to 4") (by decide +kernel)
            exact vx_throwS (rest := []) (mc := 1) (ms := 6) hx hb hl9 (own := "TileBins") (cls := "java/lang/IllegalArgumentException") (text := "there is a count of 0 to 4") (names := ["java/lang/RuntimeException", "java/lang/Exception"]) hown (by decide +kernel) (by decide +kernel) (hts _ kw_103) (hts _ kw_27) hsa_7 (vx_hat (fun w hw => hts w (hx_Aa w hw)) hx_Ab hZ.bad) hx_Ac hZ.u hZ.n hS (hl.1.trans hml.symm) dX0_count_61 dX0_count_64 dX0_count_65 dX0_count_67 dX0_count_70 (fun x hx => (hEx x hx).elim) (Nat.le_of_ble_eq_true rfl) (Nat.le_of_ble_eq_true rfl) (Nat.le_of_ble_eq_true rfl) (Nat.le_of_ble_eq_true rfl) hlocks (fun t ha hz hk => ⟨(1, (fw, fh, fs, fc, fl, fe, fi, ft, fo, fa, an, af)), (show ((1 : Nat), (0 : Int32), ((fw, fh, fs, fc, fl, fe, fi, ft, fo, fa, an, af) : TBA)) = tb_count fw fh fs fc fl fe fi ft fo fa an af a1 by unfold tb_count; rw [if_neg c_1, if_neg c_2, if_neg c_3, if_neg c_4, if_neg c_5]), ⟨rfl, q1, cA, ro_kept hP hk, va_K.moved ha hK, hD⟩, th_F hS hz hk⟩) hS.2.2 (Nat.le_of_ble_eq_true rfl) (Nat.le_of_ble_eq_true rfl)
end
section
/-! the reference: its state as numbers, and the cells that hold it -/
theorem sw_out3 {x : Int32} (h0 : ¬ x = 0) (h1 : ¬ x = 1) (h2 : ¬ x = 2) : x.toInt < 0 ∨ 2 < x.toInt := by
  have a0 := lv_neT h0 (a := 0) rfl
  have a1 := lv_neT h1 (a := 1) rfl
  have a2 := lv_neT h2 (a := 2) rfl
  omega
theorem sw_out4 {x : Int32} (h0 : ¬ x = 0) (h1 : ¬ x = 1) (h2 : ¬ x = 2) (h3 : ¬ x = 3) : x.toInt < 0 ∨ 3 < x.toInt := by
  have a := sw_out3 h0 h1 h2
  have a3 := lv_neT h3 (a := 3) rfl
  omega
abbrev MDA : Type := Int32 × Int32 × Int32 × Int32 × Int32 × Int32 × Int32 × Int32 × Int32 × (Nat → Int32) × (Nat → Int32) × (Nat → Int32) × (Nat → Int32) × (Nat → Int32)
abbrev mdAt (D : va_G) (A : Nat → Prop) (g0 : Nat) (u : MDA) (t : State) : Prop := match u with
  | (gt, gw, gh, gs, ge, gi, gk, go, ga, f1, f2, f3, f4, f5) => ∃ (r1 r2 r3 r4 r5 : Nat) (cB1 cB2 cB3 cB4 cB5 : ClassId), va_P D vwCl [(g0, .inr (1, [.int gt, .int gw, .int gh, .int gs, .int ge, .int gi, .int gk, .ref r1, .ref r2, .ref r3, .ref r4, .ref r5, .int go, .int ga])), (r1, .inl (cB1, 4096, .inl f1)), (r2, .inl (cB2, 4096, .inl f2)), (r3, .inl (cB3, 4096, .inl f3)), (r4, .inl (cB4, 4096, .inl f4)), (r5, .inl (cB5, 4096, .inl f5))] t.heap ∧ va_K D vwCl [(cB1, .int), (cB2, .int), (cB3, .int), (cB4, .int), (cB5, .int)] t ∧ va_D A [(g0, .inr (1, [.int gt, .int gw, .int gh, .int gs, .int ge, .int gi, .int gk, .ref r1, .ref r2, .ref r3, .ref r4, .ref r5, .int go, .int ga])), (r1, .inl (cB1, 4096, .inl f1)), (r2, .inl (cB2, 4096, .inl f2)), (r3, .inl (cB3, 4096, .inl f3)), (r4, .inl (cB4, 4096, .inl f4)), (r5, .inl (cB5, 4096, .inl f5))]
def md_in (a1 a2 a3 : Int32) : Int32 := (if a1 < a2 then 0 else (if a3 < a1 then 0 else 1))
set_option maxHeartbeats 4000000 in
set_option maxRecDepth 100000 in
theorem mtX1_in (l : Launch) (dC : Nat → ClassId) (dI : Nat → Nat → Nat)  (sz : Nat) (a1 a2 a3 : Int32) : Met l yX1_in wsX1_in ({ frames := 0, cells := 0, slots := 0, locals := 0 }) (va_Pc [.int a1, .int a2, .int a3] (ro_P (dC, dI) vwCl [] [] sz)) (va_Qi (fun (r : Int32) (_ : Unit) => r = md_in a1 a2 a3) (fun _ _ => True) (ro_A sz)) 0 0 (ro_A sz) := by
  refine Met.ofW (cc := cX1_in) (maxL := 3) (ret := (some .boolean)) (by decide) rfl ?_
  intro p e s m args below meth c s₁ B hml hv
  obtain ⟨rfl, hsz, hP, hK⟩ := hv
  have hx := B.exec
  have hb := B.bytes
  have hr := B.returns
  have hts : ∀ w ∈ gb, w.before _ s = true := fun w h => atoms_spec (ws := wsX1_in) B.pre w (List.mem_cons_of_mem _ h)
  have hown : s.vm.findClass "TileBinsModel" = some m.cls := findClass_of_methodNamed B.named
  have hlocks := B.notSynchronized
  subst hsz
  have hA : ∀ q : Nat, s.heap.size ≤ q → ro_A s.heap.size q := fun q h => h
  have hS : va_S (ro_A s.heap.size) s.heap s.heap [] := va_S.rf
  have hl := lv_entry ([.int a1, .int a2, .int a3]) (n := 3) (Nat.le_of_ble_eq_true rfl)
  rw [lg_entry_eq]
  generalize (lg_sl ([.int a1, .int a2, .int a3]) ++ List.replicate (3 - (lg_sl ([.int a1, .int a2, .int a3])).length) Slot.unset).toArray = ls at hl ⊢
  have hl : lv_has ls 3 [(0, .int a1), (1, .int a2), (2, .int a3)] := hl
  refine lv_iload_n hx hb dX1_in_0 rfl (lv_at hl 0 rfl) ?_
  refine lv_iload_n hx hb dX1_in_1 rfl (lv_at hl 1 rfl) ?_
  refine lv_icmp_lt (tgt := 14) hx hb dX1_in_2 (by decide) (fun c_1 => ?_) (fun c_1 => ?_)
  · refine lv_iconst (v := 0) hx hb dX1_in_14 (by first | rfl | decide) ?_
    exact W.zret (v := 0) hx hb hr (by first | rfl | (unfold md_in; (repeat' split) <;> rfl)) (fun t ht hW => ⟨⟨_, (), rfl, (show 0 = md_in a1 a2 a3 by unfold md_in; rw [if_pos c_1]), trivial⟩, hS.F ht⟩) hS.2.2 dX1_in_15
  · refine lv_iload_n hx hb dX1_in_5 rfl (lv_at hl 0 rfl) ?_
    refine lv_iload_n hx hb dX1_in_6 rfl (lv_at hl 2 rfl) ?_
    refine lv_icmp_gt (tgt := 14) hx hb dX1_in_7 (by decide) (fun c_2 => ?_) (fun c_2 => ?_)
    · refine lv_iconst (v := 0) hx hb dX1_in_14 (by first | rfl | decide) ?_
      exact W.zret (v := 0) hx hb hr (by first | rfl | (unfold md_in; (repeat' split) <;> rfl)) (fun t ht hW => ⟨⟨_, (), rfl, (show 0 = md_in a1 a2 a3 by unfold md_in; rw [if_neg c_1, if_pos c_2]), trivial⟩, hS.F ht⟩) hS.2.2 dX1_in_15
    · refine lv_iconst (v := 1) hx hb dX1_in_10 (by first | rfl | decide) ?_
      refine lv_goto (tgt := 15) hx hb dX1_in_11 (by decide) ?_
      exact W.zret (v := 1) hx hb hr (by first | rfl | (unfold md_in; (repeat' split) <;> rfl)) (fun t ht hW => ⟨⟨_, (), rfl, (show 1 = md_in a1 a2 a3 by unfold md_in; rw [if_neg c_1, if_neg c_2]), trivial⟩, hS.F ht⟩) hS.2.2 dX1_in_15
def md_least (a1 a2 : Int32) : Int32 := (if a2 ≤ a1 then a2 else a1)
set_option maxHeartbeats 4000000 in
set_option maxRecDepth 100000 in
theorem mtX1_least (l : Launch) (dC : Nat → ClassId) (dI : Nat → Nat → Nat)  (sz : Nat) (a1 a2 : Int32) : Met l yX1_least wsX1_least ({ frames := 0, cells := 0, slots := 0, locals := 0 }) (va_Pc [.int a1, .int a2] (ro_P (dC, dI) vwCl [] [] sz)) (va_Qi (fun (r : Int32) (_ : Unit) => r = md_least a1 a2) (fun _ _ => True) (ro_A sz)) 0 0 (ro_A sz) := by
  refine Met.ofW (cc := cX1_least) (maxL := 2) (ret := (some .int)) (by decide) rfl ?_
  intro p e s m args below meth c s₁ B hml hv
  obtain ⟨rfl, hsz, hP, hK⟩ := hv
  have hx := B.exec
  have hb := B.bytes
  have hr := B.returns
  have hts : ∀ w ∈ gb, w.before _ s = true := fun w h => atoms_spec (ws := wsX1_least) B.pre w (List.mem_cons_of_mem _ h)
  have hown : s.vm.findClass "TileBinsModel" = some m.cls := findClass_of_methodNamed B.named
  have hlocks := B.notSynchronized
  subst hsz
  have hA : ∀ q : Nat, s.heap.size ≤ q → ro_A s.heap.size q := fun q h => h
  have hS : va_S (ro_A s.heap.size) s.heap s.heap [] := va_S.rf
  have hl := lv_entry ([.int a1, .int a2]) (n := 2) (Nat.le_of_ble_eq_true rfl)
  rw [lg_entry_eq]
  generalize (lg_sl ([.int a1, .int a2]) ++ List.replicate (2 - (lg_sl ([.int a1, .int a2])).length) Slot.unset).toArray = ls at hl ⊢
  have hl : lv_has ls 2 [(0, .int a1), (1, .int a2)] := hl
  refine lv_iload_n hx hb dX1_least_0 rfl (lv_at hl 0 rfl) ?_
  refine lv_iload_n hx hb dX1_least_1 rfl (lv_at hl 1 rfl) ?_
  refine lv_icmp_ge (tgt := 9) hx hb dX1_least_2 (by decide) (fun c_1 => ?_) (fun c_1 => ?_)
  · refine lv_iload_n hx hb dX1_least_9 rfl (lv_at hl 1 rfl) ?_
    exact W.iret (v := a2) hx hb hr (fun t ht hW => ⟨⟨_, (), rfl, (show a2 = md_least a1 a2 by unfold md_least; rw [if_pos c_1]), trivial⟩, hS.F ht⟩) hS.2.2 dX1_least_10
  · refine lv_iload_n hx hb dX1_least_5 rfl (lv_at hl 0 rfl) ?_
    refine lv_goto (tgt := 10) hx hb dX1_least_6 (by decide) ?_
    exact W.iret (v := a1) hx hb hr (fun t ht hW => ⟨⟨_, (), rfl, (show a1 = md_least a1 a2 by unfold md_least; rw [if_neg c_1]), trivial⟩, hS.F ht⟩) hS.2.2 dX1_least_10
def md_great (a1 a2 : Int32) : Int32 := (if a1 ≤ a2 then a2 else a1)
set_option maxHeartbeats 4000000 in
set_option maxRecDepth 100000 in
theorem mtX1_greatest (l : Launch) (dC : Nat → ClassId) (dI : Nat → Nat → Nat)  (sz : Nat) (a1 a2 : Int32) : Met l yX1_greatest wsX1_greatest ({ frames := 0, cells := 0, slots := 0, locals := 0 }) (va_Pc [.int a1, .int a2] (ro_P (dC, dI) vwCl [] [] sz)) (va_Qi (fun (r : Int32) (_ : Unit) => r = md_great a1 a2) (fun _ _ => True) (ro_A sz)) 0 0 (ro_A sz) := by
  refine Met.ofW (cc := cX1_greatest) (maxL := 2) (ret := (some .int)) (by decide) rfl ?_
  intro p e s m args below meth c s₁ B hml hv
  obtain ⟨rfl, hsz, hP, hK⟩ := hv
  have hx := B.exec
  have hb := B.bytes
  have hr := B.returns
  have hts : ∀ w ∈ gb, w.before _ s = true := fun w h => atoms_spec (ws := wsX1_greatest) B.pre w (List.mem_cons_of_mem _ h)
  have hown : s.vm.findClass "TileBinsModel" = some m.cls := findClass_of_methodNamed B.named
  have hlocks := B.notSynchronized
  subst hsz
  have hA : ∀ q : Nat, s.heap.size ≤ q → ro_A s.heap.size q := fun q h => h
  have hS : va_S (ro_A s.heap.size) s.heap s.heap [] := va_S.rf
  have hl := lv_entry ([.int a1, .int a2]) (n := 2) (Nat.le_of_ble_eq_true rfl)
  rw [lg_entry_eq]
  generalize (lg_sl ([.int a1, .int a2]) ++ List.replicate (2 - (lg_sl ([.int a1, .int a2])).length) Slot.unset).toArray = ls at hl ⊢
  have hl : lv_has ls 2 [(0, .int a1), (1, .int a2)] := hl
  refine lv_iload_n hx hb dX1_greatest_0 rfl (lv_at hl 0 rfl) ?_
  refine lv_iload_n hx hb dX1_greatest_1 rfl (lv_at hl 1 rfl) ?_
  refine lv_icmp_le (tgt := 9) hx hb dX1_greatest_2 (by decide) (fun c_1 => ?_) (fun c_1 => ?_)
  · refine lv_iload_n hx hb dX1_greatest_9 rfl (lv_at hl 1 rfl) ?_
    exact W.iret (v := a2) hx hb hr (fun t ht hW => ⟨⟨_, (), rfl, (show a2 = md_great a1 a2 by unfold md_great; rw [if_pos c_1]), trivial⟩, hS.F ht⟩) hS.2.2 dX1_greatest_10
  · refine lv_iload_n hx hb dX1_greatest_5 rfl (lv_at hl 0 rfl) ?_
    refine lv_goto (tgt := 10) hx hb dX1_greatest_6 (by decide) ?_
    exact W.iret (v := a1) hx hb hr (fun t ht hW => ⟨⟨_, (), rfl, (show a1 = md_great a1 a2 by unfold md_great; rw [if_neg c_1]), trivial⟩, hS.F ht⟩) hS.2.2 dX1_greatest_10
def md_isEmpty (a1 a2 a3 a4 : Int32) : Int32 := (if a3 ≤ a1 then 1 else (if a2 < a4 then 0 else 1))
set_option maxHeartbeats 4000000 in
set_option maxRecDepth 100000 in
theorem mtX1_isEmpty (l : Launch) (dC : Nat → ClassId) (dI : Nat → Nat → Nat)  (sz : Nat) (a1 a2 a3 a4 : Int32) : Met l yX1_isEmpty wsX1_isEmpty ({ frames := 0, cells := 0, slots := 0, locals := 0 }) (va_Pc [.int a1, .int a2, .int a3, .int a4] (ro_P (dC, dI) vwCl [] [] sz)) (va_Qi (fun (r : Int32) (_ : Unit) => r = md_isEmpty a1 a2 a3 a4) (fun _ _ => True) (ro_A sz)) 0 0 (ro_A sz) := by
  refine Met.ofW (cc := cX1_isEmpty) (maxL := 4) (ret := (some .boolean)) (by decide) rfl ?_
  intro p e s m args below meth c s₁ B hml hv
  obtain ⟨rfl, hsz, hP, hK⟩ := hv
  have hx := B.exec
  have hb := B.bytes
  have hr := B.returns
  have hts : ∀ w ∈ gb, w.before _ s = true := fun w h => atoms_spec (ws := wsX1_isEmpty) B.pre w (List.mem_cons_of_mem _ h)
  have hown : s.vm.findClass "TileBinsModel" = some m.cls := findClass_of_methodNamed B.named
  have hlocks := B.notSynchronized
  subst hsz
  have hA : ∀ q : Nat, s.heap.size ≤ q → ro_A s.heap.size q := fun q h => h
  have hS : va_S (ro_A s.heap.size) s.heap s.heap [] := va_S.rf
  have hl := lv_entry ([.int a1, .int a2, .int a3, .int a4]) (n := 4) (Nat.le_of_ble_eq_true rfl)
  rw [lg_entry_eq]
  generalize (lg_sl ([.int a1, .int a2, .int a3, .int a4]) ++ List.replicate (4 - (lg_sl ([.int a1, .int a2, .int a3, .int a4])).length) Slot.unset).toArray = ls at hl ⊢
  have hl : lv_has ls 4 [(0, .int a1), (1, .int a2), (2, .int a3), (3, .int a4)] := hl
  refine lv_iload_n hx hb dX1_isEmpty_0 rfl (lv_at hl 0 rfl) ?_
  refine lv_iload_n hx hb dX1_isEmpty_1 rfl (lv_at hl 2 rfl) ?_
  refine lv_icmp_ge (tgt := 10) hx hb dX1_isEmpty_2 (by decide) (fun c_1 => ?_) (fun c_1 => ?_)
  · refine lv_iconst (v := 1) hx hb dX1_isEmpty_10 (by first | rfl | decide) ?_
    refine lv_goto (tgt := 15) hx hb dX1_isEmpty_11 (by decide) ?_
    exact W.zret (v := 1) hx hb hr (by first | rfl | (unfold md_in; (repeat' split) <;> rfl)) (fun t ht hW => ⟨⟨_, (), rfl, (show 1 = md_isEmpty a1 a2 a3 a4 by unfold md_isEmpty; rw [if_pos c_1]), trivial⟩, hS.F ht⟩) hS.2.2 dX1_isEmpty_15
  · refine lv_iload_n hx hb dX1_isEmpty_5 rfl (lv_at hl 1 rfl) ?_
    refine lv_iload_n hx hb dX1_isEmpty_6 rfl (lv_at hl 3 rfl) ?_
    refine lv_icmp_lt (tgt := 14) hx hb dX1_isEmpty_7 (by decide) (fun c_2 => ?_) (fun c_2 => ?_)
    · refine lv_iconst (v := 0) hx hb dX1_isEmpty_14 (by first | rfl | decide) ?_
      exact W.zret (v := 0) hx hb hr (by first | rfl | (unfold md_in; (repeat' split) <;> rfl)) (fun t ht hW => ⟨⟨_, (), rfl, (show 0 = md_isEmpty a1 a2 a3 a4 by unfold md_isEmpty; rw [if_neg c_1, if_pos c_2]), trivial⟩, hS.F ht⟩) hS.2.2 dX1_isEmpty_15
    · refine lv_iconst (v := 1) hx hb dX1_isEmpty_10 (by first | rfl | decide) ?_
      refine lv_goto (tgt := 15) hx hb dX1_isEmpty_11 (by decide) ?_
      exact W.zret (v := 1) hx hb hr (by first | rfl | (unfold md_in; (repeat' split) <;> rfl)) (fun t ht hW => ⟨⟨_, (), rfl, (show 1 = md_isEmpty a1 a2 a3 a4 by unfold md_isEmpty; rw [if_neg c_1, if_neg c_2]), trivial⟩, hS.F ht⟩) hS.2.2 dX1_isEmpty_15
def md_thrown (gt : Int32) : Int32 := gt
set_option maxHeartbeats 4000000 in
set_option maxRecDepth 100000 in
theorem mtX1_thrown (l : Launch) (dC : Nat → ClassId) (dI : Nat → Nat → Nat) (g0 r1 r2 r3 r4 r5 : Nat) (cB1 cB2 cB3 cB4 cB5 : ClassId) (gt gw gh gs ge gi gk go ga : Int32) (f1 f2 f3 f4 f5 : Nat → Int32) (sz : Nat) : Met l yX1_thrown wsX1_thrown ({ frames := 0, cells := 0, slots := 0, locals := 0 }) (va_Pc [.ref g0] (ro_P (dC, dI) vwCl [(g0, .inr (1, [.int gt, .int gw, .int gh, .int gs, .int ge, .int gi, .int gk, .ref r1, .ref r2, .ref r3, .ref r4, .ref r5, .int go, .int ga])), (r1, .inl (cB1, 4096, .inl f1)), (r2, .inl (cB2, 4096, .inl f2)), (r3, .inl (cB3, 4096, .inl f3)), (r4, .inl (cB4, 4096, .inl f4)), (r5, .inl (cB5, 4096, .inl f5))] [(cB1, .int), (cB2, .int), (cB3, .int), (cB4, .int), (cB5, .int)] sz)) (va_Qi (fun (r : Int32) (_ : Unit) => r = md_thrown gt) (fun _ _ => True) (ro_A sz)) 0 0 (ro_A sz) := by
  refine Met.ofW (cc := cX1_thrown) (maxL := 1) (ret := (some .int)) (by decide) rfl ?_
  intro p e s m args below meth c s₁ B hml hv
  obtain ⟨rfl, hsz, hP, hK⟩ := hv
  have hx := B.exec
  have hb := B.bytes
  have hr := B.returns
  have hts : ∀ w ∈ gb, w.before _ s = true := fun w h => atoms_spec (ws := wsX1_thrown) B.pre w (List.mem_cons_of_mem _ h)
  have hown : s.vm.findClass "TileBinsModel" = some m.cls := findClass_of_methodNamed B.named
  have hlocks := B.notSynchronized
  subst hsz
  have hA : ∀ q : Nat, s.heap.size ≤ q → ro_A s.heap.size q := fun q h => h
  have hS : va_S (ro_A s.heap.size) s.heap s.heap [] := va_S.rf
  have hl := lv_entry ([.ref g0]) (n := 1) (Nat.le_of_ble_eq_true rfl)
  rw [lg_entry_eq]
  generalize (lg_sl ([.ref g0]) ++ List.replicate (1 - (lg_sl ([.ref g0])).length) Slot.unset).toArray = ls at hl ⊢
  have hl : lv_has ls 1 [(0, .ref g0)] := hl
  refine lv_aload_n hx hb dX1_thrown_0 rfl (lv_at hl 0 rfl) ?_
  refine va_get (D := (dC, dI)) (ci := 1) (v := .int gt) (C := "TileBinsModel") (T := TX1) (N := 14) hx hb hts inX1 hown hK hP 0 rfl rfl 0 (by decide) (hts _ kw_327) (fun _ h9 => h9) rfl dX1_thrown_1 ?_
  exact W.iret (v := gt) hx hb hr (fun t ht hW => ⟨⟨_, (), rfl, rfl, trivial⟩, hS.F ht⟩) hS.2.2 dX1_thrown_4
def md_across (gw gs : Int32) : Int32 := ((gw + gs) - 1) / gs
set_option maxHeartbeats 4000000 in
set_option maxRecDepth 100000 in
theorem mtX1_across (l : Launch) (dC : Nat → ClassId) (dI : Nat → Nat → Nat) (g0 r1 r2 r3 r4 r5 : Nat) (cB1 cB2 cB3 cB4 cB5 : ClassId) (gt gw gh gs ge gi gk go ga : Int32) (f1 f2 f3 f4 f5 : Nat → Int32) (sz : Nat) (hs0 : ¬ gs = 0) : Met l yX1_across wsX1_across ({ frames := 0, cells := 0, slots := 0, locals := 0 }) (va_Pc [.ref g0] (ro_P (dC, dI) vwCl [(g0, .inr (1, [.int gt, .int gw, .int gh, .int gs, .int ge, .int gi, .int gk, .ref r1, .ref r2, .ref r3, .ref r4, .ref r5, .int go, .int ga])), (r1, .inl (cB1, 4096, .inl f1)), (r2, .inl (cB2, 4096, .inl f2)), (r3, .inl (cB3, 4096, .inl f3)), (r4, .inl (cB4, 4096, .inl f4)), (r5, .inl (cB5, 4096, .inl f5))] [(cB1, .int), (cB2, .int), (cB3, .int), (cB4, .int), (cB5, .int)] sz)) (va_Qi (fun (r : Int32) (_ : Unit) => r = md_across gw gs) (fun _ _ => True) (ro_A sz)) 0 0 (ro_A sz) := by
  refine Met.ofW (cc := cX1_across) (maxL := 1) (ret := (some .int)) (by decide) rfl ?_
  intro p e s m args below meth c s₁ B hml hv
  obtain ⟨rfl, hsz, hP, hK⟩ := hv
  have hx := B.exec
  have hb := B.bytes
  have hr := B.returns
  have hts : ∀ w ∈ gb, w.before _ s = true := fun w h => atoms_spec (ws := wsX1_across) B.pre w (List.mem_cons_of_mem _ h)
  have hown : s.vm.findClass "TileBinsModel" = some m.cls := findClass_of_methodNamed B.named
  have hlocks := B.notSynchronized
  subst hsz
  have hA : ∀ q : Nat, s.heap.size ≤ q → ro_A s.heap.size q := fun q h => h
  have hS : va_S (ro_A s.heap.size) s.heap s.heap [] := va_S.rf
  have hl := lv_entry ([.ref g0]) (n := 1) (Nat.le_of_ble_eq_true rfl)
  rw [lg_entry_eq]
  generalize (lg_sl ([.ref g0]) ++ List.replicate (1 - (lg_sl ([.ref g0])).length) Slot.unset).toArray = ls at hl ⊢
  have hl : lv_has ls 1 [(0, .ref g0)] := hl
  refine lv_aload_n hx hb dX1_across_0 rfl (lv_at hl 0 rfl) ?_
  refine va_get (D := (dC, dI)) (ci := 1) (v := .int gw) (C := "TileBinsModel") (T := TX1) (N := 14) hx hb hts inX1 hown hK hP 0 rfl rfl 1 (by decide) (hts _ kw_328) (fun _ h9 => h9) rfl dX1_across_1 ?_
  refine lv_aload_n hx hb dX1_across_4 rfl (lv_at hl 0 rfl) ?_
  refine va_get (D := (dC, dI)) (ci := 1) (v := .int gs) (C := "TileBinsModel") (T := TX1) (N := 14) hx hb hts inX1 hown hK hP 0 rfl rfl 3 (by decide) (hts _ kw_330) (fun _ h9 => h9) rfl dX1_across_5 ?_
  refine lv_iadd hx hb dX1_across_8 ?_
  refine lv_iconst (v := 1) hx hb dX1_across_9 (by first | rfl | decide) ?_
  refine lv_isub hx hb dX1_across_10 ?_
  refine lv_aload_n hx hb dX1_across_11 rfl (lv_at hl 0 rfl) ?_
  refine va_get (D := (dC, dI)) (ci := 1) (v := .int gs) (C := "TileBinsModel") (T := TX1) (N := 14) hx hb hts inX1 hown hK hP 0 rfl rfl 3 (by decide) (hts _ kw_330) (fun _ h9 => h9) rfl dX1_across_12 ?_
  refine lv_idiv hx hb dX1_across_15 hs0 ?_
  exact W.iret (v := ((gw + gs) - 1) / gs) hx hb hr (fun t ht hW => ⟨⟨_, (), rfl, rfl, trivial⟩, hS.F ht⟩) hS.2.2 dX1_across_16
def md_tiles (gw gh gs : Int32) : Int32 := (md_across gw gs) * (((gh + gs) - 1) / gs)
set_option maxHeartbeats 4000000 in
set_option maxRecDepth 100000 in
theorem mtX1_tiles (l : Launch) (dC : Nat → ClassId) (dI : Nat → Nat → Nat) (g0 r1 r2 r3 r4 r5 : Nat) (cB1 cB2 cB3 cB4 cB5 : ClassId) (gt gw gh gs ge gi gk go ga : Int32) (f1 f2 f3 f4 f5 : Nat → Int32) (sz : Nat) (hs0 : ¬ gs = 0) : Met l yX1_tiles wsX1_tiles ({ frames := 1, cells := 0, slots := 0, locals := 20 }) (va_Pc [.ref g0] (ro_P (dC, dI) vwCl [(g0, .inr (1, [.int gt, .int gw, .int gh, .int gs, .int ge, .int gi, .int gk, .ref r1, .ref r2, .ref r3, .ref r4, .ref r5, .int go, .int ga])), (r1, .inl (cB1, 4096, .inl f1)), (r2, .inl (cB2, 4096, .inl f2)), (r3, .inl (cB3, 4096, .inl f3)), (r4, .inl (cB4, 4096, .inl f4)), (r5, .inl (cB5, 4096, .inl f5))] [(cB1, .int), (cB2, .int), (cB3, .int), (cB4, .int), (cB5, .int)] sz)) (va_Qi (fun (r : Int32) (_ : Unit) => r = md_tiles gw gh gs) (fun _ _ => True) (ro_A sz)) 0 0 (ro_A sz) := by
  refine Met.ofW (cc := cX1_tiles) (maxL := 1) (ret := (some .int)) (by decide) rfl ?_
  intro p e s m args below meth c s₁ B hml hv
  obtain ⟨rfl, hsz, hP, hK⟩ := hv
  have hx := B.exec
  have hb := B.bytes
  have hr := B.returns
  have hts : ∀ w ∈ gb, w.before _ s = true := fun w h => atoms_spec (ws := wsX1_tiles) B.pre w (List.mem_cons_of_mem _ h)
  have hown : s.vm.findClass "TileBinsModel" = some m.cls := findClass_of_methodNamed B.named
  have hlocks := B.notSynchronized
  subst hsz
  have hA : ∀ q : Nat, s.heap.size ≤ q → ro_A s.heap.size q := fun q h => h
  have hS : va_S (ro_A s.heap.size) s.heap s.heap [] := va_S.rf
  have hl := lv_entry ([.ref g0]) (n := 1) (Nat.le_of_ble_eq_true rfl)
  rw [lg_entry_eq]
  generalize (lg_sl ([.ref g0]) ++ List.replicate (1 - (lg_sl ([.ref g0])).length) Slot.unset).toArray = ls at hl ⊢
  have hl : lv_has ls 1 [(0, .ref g0)] := hl
  refine lv_aload_n hx hb dX1_tiles_0 rfl (lv_at hl 0 rfl) ?_
  refine ro_calli (va_runV (As := []) (rest := []) ⟨hx, hb, hml, hown, hts⟩ (mtX1_across l dC dI g0 r1 r2 r3 r4 r5 cB1 cB2 cB3 cB4 cB5 gt gw gh gs ge gi gk go ga f1 f2 f3 f4 f5 s.heap.size  hs0) (cwV 0 hts (gb_v kw_389 kw_391 kw_15 kw_23 kw_392) rfl rfl rfl (by decide +kernel) ⟨Nat.le_of_ble_eq_true rfl, Nat.le_of_ble_eq_true rfl⟩) ⟨ro_P.blind, va_recv hK hP (ci := 1) (q0 := 0) rfl rfl, ro_P.at hP hK⟩ rfl rfl hl.1 rfl (lv_room (Nat.le_of_ble_eq_true rfl)) dX1_tiles_1 ⟨Nat.le_of_ble_eq_true rfl, Nat.le_of_ble_eq_true rfl⟩) hP hS hA (fun H locs hP hS hz hk => ?_)
  refine lv_aload_n hx hb dX1_tiles_4 rfl (lv_at hl 0 rfl) ?_
  refine va_get (D := (dC, dI)) (ci := 1) (v := .int gh) (C := "TileBinsModel") (T := TX1) (N := 14) hx hb hts inX1 hown hK hP 0 rfl rfl 2 (by decide) (hts _ kw_329) (fun _ h9 => h9) rfl dX1_tiles_5 ?_
  refine lv_aload_n hx hb dX1_tiles_8 rfl (lv_at hl 0 rfl) ?_
  refine va_get (D := (dC, dI)) (ci := 1) (v := .int gs) (C := "TileBinsModel") (T := TX1) (N := 14) hx hb hts inX1 hown hK hP 0 rfl rfl 3 (by decide) (hts _ kw_330) (fun _ h9 => h9) rfl dX1_tiles_9 ?_
  refine lv_iadd hx hb dX1_tiles_12 ?_
  refine lv_iconst (v := 1) hx hb dX1_tiles_13 (by first | rfl | decide) ?_
  refine lv_isub hx hb dX1_tiles_14 ?_
  refine lv_aload_n hx hb dX1_tiles_15 rfl (lv_at hl 0 rfl) ?_
  refine va_get (D := (dC, dI)) (ci := 1) (v := .int gs) (C := "TileBinsModel") (T := TX1) (N := 14) hx hb hts inX1 hown hK hP 0 rfl rfl 3 (by decide) (hts _ kw_330) (fun _ h9 => h9) rfl dX1_tiles_16 ?_
  refine lv_idiv hx hb dX1_tiles_19 hs0 ?_
  refine lv_imul hx hb dX1_tiles_20 ?_
  exact W.iret (v := (md_across gw gs) * (((gh + gs) - 1) / gs)) hx hb hr (fun t ht hW => ⟨⟨_, (), rfl, rfl, trivial⟩, hS.F ht⟩) hS.2.2 dX1_tiles_21
def md_isTile (gw gh gs a1 : Int32) : Int32 := md_in a1 0 ((md_tiles gw gh gs) - 1)
set_option maxHeartbeats 4000000 in
set_option maxRecDepth 100000 in
theorem mtX1_isTile (l : Launch) (dC : Nat → ClassId) (dI : Nat → Nat → Nat) (g0 r1 r2 r3 r4 r5 : Nat) (cB1 cB2 cB3 cB4 cB5 : ClassId) (gt gw gh gs ge gi gk go ga : Int32) (f1 f2 f3 f4 f5 : Nat → Int32) (sz : Nat) (a1 : Int32) (hs0 : ¬ gs = 0) : Met l yX1_isTile wsX1_isTile ({ frames := 2, cells := 0, slots := 0, locals := 40 }) (va_Pc [.ref g0, .int a1] (ro_P (dC, dI) vwCl [(g0, .inr (1, [.int gt, .int gw, .int gh, .int gs, .int ge, .int gi, .int gk, .ref r1, .ref r2, .ref r3, .ref r4, .ref r5, .int go, .int ga])), (r1, .inl (cB1, 4096, .inl f1)), (r2, .inl (cB2, 4096, .inl f2)), (r3, .inl (cB3, 4096, .inl f3)), (r4, .inl (cB4, 4096, .inl f4)), (r5, .inl (cB5, 4096, .inl f5))] [(cB1, .int), (cB2, .int), (cB3, .int), (cB4, .int), (cB5, .int)] sz)) (va_Qi (fun (r : Int32) (_ : Unit) => r = md_isTile gw gh gs a1) (fun _ _ => True) (ro_A sz)) 0 0 (ro_A sz) := by
  refine Met.ofW (cc := cX1_isTile) (maxL := 2) (ret := (some .boolean)) (by decide) rfl ?_
  intro p e s m args below meth c s₁ B hml hv
  obtain ⟨rfl, hsz, hP, hK⟩ := hv
  have hx := B.exec
  have hb := B.bytes
  have hr := B.returns
  have hts : ∀ w ∈ gb, w.before _ s = true := fun w h => atoms_spec (ws := wsX1_isTile) B.pre w (List.mem_cons_of_mem _ h)
  have hown : s.vm.findClass "TileBinsModel" = some m.cls := findClass_of_methodNamed B.named
  have hlocks := B.notSynchronized
  subst hsz
  have hA : ∀ q : Nat, s.heap.size ≤ q → ro_A s.heap.size q := fun q h => h
  have hS : va_S (ro_A s.heap.size) s.heap s.heap [] := va_S.rf
  have hl := lv_entry ([.ref g0, .int a1]) (n := 2) (Nat.le_of_ble_eq_true rfl)
  rw [lg_entry_eq]
  generalize (lg_sl ([.ref g0, .int a1]) ++ List.replicate (2 - (lg_sl ([.ref g0, .int a1])).length) Slot.unset).toArray = ls at hl ⊢
  have hl : lv_has ls 2 [(0, .ref g0), (1, .int a1)] := hl
  refine lv_iload_n hx hb dX1_isTile_0 rfl (lv_at hl 1 rfl) ?_
  refine lv_iconst (v := 0) hx hb dX1_isTile_1 (by first | rfl | decide) ?_
  refine lv_aload_n hx hb dX1_isTile_2 rfl (lv_at hl 0 rfl) ?_
  refine ro_calli (va_runV (As := []) (rest := [.int 0, .int a1]) ⟨hx, hb, hml, hown, hts⟩ (mtX1_tiles l dC dI g0 r1 r2 r3 r4 r5 cB1 cB2 cB3 cB4 cB5 gt gw gh gs ge gi gk go ga f1 f2 f3 f4 f5 s.heap.size  hs0) (cwV 0 hts (gb_v kw_385 kw_387 kw_14 kw_23 kw_388) rfl rfl rfl (by decide +kernel) ⟨Nat.le_of_ble_eq_true rfl, Nat.le_of_ble_eq_true rfl⟩) ⟨ro_P.blind, va_recv hK hP (ci := 1) (q0 := 0) rfl rfl, ro_P.at hP hK⟩ rfl rfl hl.1 rfl (lv_room (Nat.le_of_ble_eq_true rfl)) dX1_isTile_3 ⟨Nat.le_of_ble_eq_true rfl, Nat.le_of_ble_eq_true rfl⟩) hP hS hA (fun H locs hP hS hz hk => ?_)
  refine lv_iconst (v := 1) hx hb dX1_isTile_6 (by first | rfl | decide) ?_
  refine lv_isub hx hb dX1_isTile_7 ?_
  refine ro_calli (va_runS (As := [.int a1, .int 0, .int ((md_tiles gw gh gs) - 1)]) (rest := []) ⟨hx, hb, hml, hown, hts⟩ (mtX1_in l dC dI  H.size a1 0 ((md_tiles gw gh gs) - 1)) (va_cwS 3 hts (gb_s kw_378 kw_379 kw_23 kw_380) rfl rfl rfl (by decide +kernel) ⟨Nat.le_of_ble_eq_true rfl, Nat.le_of_ble_eq_true rfl⟩) ⟨ro_P.blind, ro_P.at (hP.sub [] rfl) (hK.sub [] rfl)⟩ rfl rfl hl.1 rfl (lv_room (Nat.le_of_ble_eq_true rfl)) dX1_isTile_8 ⟨Nat.le_of_ble_eq_true rfl, Nat.le_of_ble_eq_true rfl⟩) hP hS hA (fun H locs hP hS hz hk => ?_)
  exact W.zret (v := md_in a1 0 ((md_tiles gw gh gs) - 1)) hx hb hr (by first | rfl | (unfold md_in; (repeat' split) <;> rfl)) (fun t ht hW => ⟨⟨_, (), rfl, rfl, trivial⟩, hS.F ht⟩) hS.2.2 dX1_isTile_11
def md_edge (gw gh gs a1 a2 : Int32) : Int32 := (if a2 = 0 then (a1 - a1 / (md_across gw gs) * (md_across gw gs)) * gs else (if a2 = 1 then (a1 / (md_across gw gs)) * gs else (if a2 = 2 then md_least (((a1 - a1 / (md_across gw gs) * (md_across gw gs)) * gs) + gs) gw else md_least (((a1 / (md_across gw gs)) * gs) + gs) gh)))
set_option maxHeartbeats 4000000 in
set_option maxRecDepth 100000 in
theorem mtX1_edge (l : Launch) (dC : Nat → ClassId) (dI : Nat → Nat → Nat) (g0 r1 r2 r3 r4 r5 : Nat) (cB1 cB2 cB3 cB4 cB5 : ClassId) (gt gw gh gs ge gi gk go ga : Int32) (f1 f2 f3 f4 f5 : Nat → Int32) (sz : Nat) (a1 a2 : Int32) (hs0 : ¬ gs = 0) (hac : ¬ md_across gw gs = 0) : Met l yX1_edge wsX1_edge ({ frames := 1, cells := 0, slots := 0, locals := 21 }) (va_Pc [.ref g0, .int a1, .int a2] (ro_P (dC, dI) vwCl [(g0, .inr (1, [.int gt, .int gw, .int gh, .int gs, .int ge, .int gi, .int gk, .ref r1, .ref r2, .ref r3, .ref r4, .ref r5, .int go, .int ga])), (r1, .inl (cB1, 4096, .inl f1)), (r2, .inl (cB2, 4096, .inl f2)), (r3, .inl (cB3, 4096, .inl f3)), (r4, .inl (cB4, 4096, .inl f4)), (r5, .inl (cB5, 4096, .inl f5))] [(cB1, .int), (cB2, .int), (cB3, .int), (cB4, .int), (cB5, .int)] sz)) (va_Qi (fun (r : Int32) (_ : Unit) => r = md_edge gw gh gs a1 a2) (fun _ _ => True) (ro_A sz)) 0 0 (ro_A sz) := by
  refine Met.ofW (cc := cX1_edge) (maxL := 5) (ret := (some .int)) (by decide) rfl ?_
  intro p e s m args below meth c s₁ B hml hv
  obtain ⟨rfl, hsz, hP, hK⟩ := hv
  have hx := B.exec
  have hb := B.bytes
  have hr := B.returns
  have hts : ∀ w ∈ gb, w.before _ s = true := fun w h => atoms_spec (ws := wsX1_edge) B.pre w (List.mem_cons_of_mem _ h)
  have hown : s.vm.findClass "TileBinsModel" = some m.cls := findClass_of_methodNamed B.named
  have hlocks := B.notSynchronized
  subst hsz
  have hA : ∀ q : Nat, s.heap.size ≤ q → ro_A s.heap.size q := fun q h => h
  have hS : va_S (ro_A s.heap.size) s.heap s.heap [] := va_S.rf
  have hl := lv_entry ([.ref g0, .int a1, .int a2]) (n := 5) (Nat.le_of_ble_eq_true rfl)
  rw [lg_entry_eq]
  generalize (lg_sl ([.ref g0, .int a1, .int a2]) ++ List.replicate (5 - (lg_sl ([.ref g0, .int a1, .int a2])).length) Slot.unset).toArray = ls at hl ⊢
  have hl : lv_has ls 5 [(0, .ref g0), (1, .int a1), (2, .int a2)] := hl
  refine lv_iload_n hx hb dX1_edge_0 rfl (lv_at hl 1 rfl) ?_
  refine lv_aload_n hx hb dX1_edge_1 rfl (lv_at hl 0 rfl) ?_
  refine ro_calli (va_runV (As := []) (rest := [.int a1]) ⟨hx, hb, hml, hown, hts⟩ (mtX1_across l dC dI g0 r1 r2 r3 r4 r5 cB1 cB2 cB3 cB4 cB5 gt gw gh gs ge gi gk go ga f1 f2 f3 f4 f5 s.heap.size  hs0) (cwV 0 hts (gb_v kw_389 kw_391 kw_15 kw_23 kw_392) rfl rfl rfl (by decide +kernel) ⟨Nat.le_of_ble_eq_true rfl, Nat.le_of_ble_eq_true rfl⟩) ⟨ro_P.blind, va_recv hK hP (ci := 1) (q0 := 0) rfl rfl, ro_P.at hP hK⟩ rfl rfl hl.1 rfl (lv_room (Nat.le_of_ble_eq_true rfl)) dX1_edge_2 ⟨Nat.le_of_ble_eq_true rfl, Nat.le_of_ble_eq_true rfl⟩) hP hS hA (fun H locs hP hS hz hk => ?_)
  refine lv_irem hx hb dX1_edge_5 hac ?_
  refine lv_aload_n hx hb dX1_edge_6 rfl (lv_at hl 0 rfl) ?_
  refine va_get (D := (dC, dI)) (ci := 1) (v := .int gs) (C := "TileBinsModel") (T := TX1) (N := 14) hx hb hts inX1 hown hK hP 0 rfl rfl 3 (by decide) (hts _ kw_330) (fun _ h9 => h9) rfl dX1_edge_7 ?_
  refine lv_imul hx hb dX1_edge_10 ?_
  refine lv_istore_n (lv' := [(3, .int ((a1 - a1 / (md_across gw gs) * (md_across gw gs)) * gs)), (0, .ref g0), (1, .int a1), (2, .int a2)]) hx hb dX1_edge_11 rfl hl (by decide) rfl (fun ls hl => ?_)
  refine lv_iload_n hx hb dX1_edge_12 rfl (lv_at hl 2 rfl) ?_
  refine lv_aload_n hx hb dX1_edge_13 rfl (lv_at hl 1 rfl) ?_
  refine ro_calli (va_runV (As := []) (rest := [.int a1]) ⟨hx, hb, hml, hown, hts⟩ (mtX1_across l dC dI g0 r1 r2 r3 r4 r5 cB1 cB2 cB3 cB4 cB5 gt gw gh gs ge gi gk go ga f1 f2 f3 f4 f5 H.size  hs0) (cwV 0 hts (gb_v kw_389 kw_391 kw_15 kw_23 kw_392) rfl rfl rfl (by decide +kernel) ⟨Nat.le_of_ble_eq_true rfl, Nat.le_of_ble_eq_true rfl⟩) ⟨ro_P.blind, va_recv hK hP (ci := 1) (q0 := 0) rfl rfl, ro_P.at hP hK⟩ rfl rfl hl.1 rfl (lv_room (Nat.le_of_ble_eq_true rfl)) dX1_edge_14 ⟨Nat.le_of_ble_eq_true rfl, Nat.le_of_ble_eq_true rfl⟩) hP hS hA (fun H locs hP hS hz hk => ?_)
  refine lv_idiv hx hb dX1_edge_17 hac ?_
  refine lv_aload_n hx hb dX1_edge_18 rfl (lv_at hl 1 rfl) ?_
  refine va_get (D := (dC, dI)) (ci := 1) (v := .int gs) (C := "TileBinsModel") (T := TX1) (N := 14) hx hb hts inX1 hown hK hP 0 rfl rfl 3 (by decide) (hts _ kw_330) (fun _ h9 => h9) rfl dX1_edge_19 ?_
  refine lv_imul hx hb dX1_edge_22 ?_
  refine lv_istore (lv' := [(4, .int ((a1 / (md_across gw gs)) * gs)), (3, .int ((a1 - a1 / (md_across gw gs) * (md_across gw gs)) * gs)), (0, .ref g0), (1, .int a1), (2, .int a2)]) hx hb dX1_edge_23 hl (by decide) rfl (fun ls hl => ?_)
  refine lv_iload_n hx hb dX1_edge_25 rfl (lv_at hl 4 rfl) ?_
  rcases Classical.em (a2 = 0) with c_1 | c_1
  · refine lv_tableIn (off := 26) (tgt := 52) hx hb dX1_edge_26 (by rw [c_1]; decide) (by rw [c_1]; decide) (by rw [c_1]; rfl) (by decide) ?_
    refine lv_iload_n hx hb dX1_edge_52 rfl (lv_at hl 1 rfl) ?_
    exact W.iret (v := (a1 - a1 / (md_across gw gs) * (md_across gw gs)) * gs) hx hb hr (fun t ht hW => ⟨⟨_, (), rfl, (show (a1 - a1 / (md_across gw gs) * (md_across gw gs)) * gs = md_edge gw gh gs a1 a2 by unfold md_edge; rw [if_pos c_1]), trivial⟩, hS.F ht⟩) hS.2.2 dX1_edge_53
  · rcases Classical.em (a2 = 1) with c_2 | c_2
    · refine lv_tableIn (off := 28) (tgt := 54) hx hb dX1_edge_26 (by rw [c_2]; decide) (by rw [c_2]; decide) (by rw [c_2]; rfl) (by decide) ?_
      refine lv_iload hx hb dX1_edge_54 (lv_at hl 0 rfl) ?_
      exact W.iret (v := (a1 / (md_across gw gs)) * gs) hx hb hr (fun t ht hW => ⟨⟨_, (), rfl, (show (a1 / (md_across gw gs)) * gs = md_edge gw gh gs a1 a2 by unfold md_edge; rw [if_neg c_1, if_pos c_2]), trivial⟩, hS.F ht⟩) hS.2.2 dX1_edge_56
    · rcases Classical.em (a2 = 2) with c_3 | c_3
      · refine lv_tableIn (off := 31) (tgt := 57) hx hb dX1_edge_26 (by rw [c_3]; decide) (by rw [c_3]; decide) (by rw [c_3]; rfl) (by decide) ?_
        refine lv_iload_n hx hb dX1_edge_57 rfl (lv_at hl 1 rfl) ?_
        refine lv_aload_n hx hb dX1_edge_58 rfl (lv_at hl 2 rfl) ?_
        refine va_get (D := (dC, dI)) (ci := 1) (v := .int gs) (C := "TileBinsModel") (T := TX1) (N := 14) hx hb hts inX1 hown hK hP 0 rfl rfl 3 (by decide) (hts _ kw_330) (fun _ h9 => h9) rfl dX1_edge_59 ?_
        refine lv_iadd hx hb dX1_edge_62 ?_
        refine lv_aload_n hx hb dX1_edge_63 rfl (lv_at hl 2 rfl) ?_
        refine va_get (D := (dC, dI)) (ci := 1) (v := .int gw) (C := "TileBinsModel") (T := TX1) (N := 14) hx hb hts inX1 hown hK hP 0 rfl rfl 1 (by decide) (hts _ kw_328) (fun _ h9 => h9) rfl dX1_edge_64 ?_
        refine ro_calli (va_runS (As := [.int (((a1 - a1 / (md_across gw gs) * (md_across gw gs)) * gs) + gs), .int gw]) (rest := []) ⟨hx, hb, hml, hown, hts⟩ (mtX1_least l dC dI  H.size (((a1 - a1 / (md_across gw gs) * (md_across gw gs)) * gs) + gs) gw) (va_cwS 2 hts (gb_s kw_400 kw_401 kw_23 kw_402) rfl rfl rfl (by decide +kernel) ⟨Nat.le_of_ble_eq_true rfl, Nat.le_of_ble_eq_true rfl⟩) ⟨ro_P.blind, ro_P.at (hP.sub [] rfl) (hK.sub [] rfl)⟩ rfl rfl hl.1 rfl (lv_room (Nat.le_of_ble_eq_true rfl)) dX1_edge_67 ⟨Nat.le_of_ble_eq_true rfl, Nat.le_of_ble_eq_true rfl⟩) hP hS hA (fun H locs hP hS hz hk => ?_)
        exact W.iret (v := md_least (((a1 - a1 / (md_across gw gs) * (md_across gw gs)) * gs) + gs) gw) hx hb hr (fun t ht hW => ⟨⟨_, (), rfl, (show md_least (((a1 - a1 / (md_across gw gs) * (md_across gw gs)) * gs) + gs) gw = md_edge gw gh gs a1 a2 by unfold md_edge; rw [if_neg c_1, if_neg c_2, if_pos c_3]), trivial⟩, hS.F ht⟩) hS.2.2 dX1_edge_70
      · refine lv_tableOut (tgt := 71) hx hb dX1_edge_26 (sw_out3 c_1 c_2 c_3) (by decide) ?_
        refine lv_iload hx hb dX1_edge_71 (lv_at hl 0 rfl) ?_
        refine lv_aload_n hx hb dX1_edge_73 rfl (lv_at hl 2 rfl) ?_
        refine va_get (D := (dC, dI)) (ci := 1) (v := .int gs) (C := "TileBinsModel") (T := TX1) (N := 14) hx hb hts inX1 hown hK hP 0 rfl rfl 3 (by decide) (hts _ kw_330) (fun _ h9 => h9) rfl dX1_edge_74 ?_
        refine lv_iadd hx hb dX1_edge_77 ?_
        refine lv_aload_n hx hb dX1_edge_78 rfl (lv_at hl 2 rfl) ?_
        refine va_get (D := (dC, dI)) (ci := 1) (v := .int gh) (C := "TileBinsModel") (T := TX1) (N := 14) hx hb hts inX1 hown hK hP 0 rfl rfl 2 (by decide) (hts _ kw_329) (fun _ h9 => h9) rfl dX1_edge_79 ?_
        refine ro_calli (va_runS (As := [.int (((a1 / (md_across gw gs)) * gs) + gs), .int gh]) (rest := []) ⟨hx, hb, hml, hown, hts⟩ (mtX1_least l dC dI  H.size (((a1 / (md_across gw gs)) * gs) + gs) gh) (va_cwS 2 hts (gb_s kw_400 kw_401 kw_23 kw_402) rfl rfl rfl (by decide +kernel) ⟨Nat.le_of_ble_eq_true rfl, Nat.le_of_ble_eq_true rfl⟩) ⟨ro_P.blind, ro_P.at (hP.sub [] rfl) (hK.sub [] rfl)⟩ rfl rfl hl.1 rfl (lv_room (Nat.le_of_ble_eq_true rfl)) dX1_edge_82 ⟨Nat.le_of_ble_eq_true rfl, Nat.le_of_ble_eq_true rfl⟩) hP hS hA (fun H locs hP hS hz hk => ?_)
        exact W.iret (v := md_least (((a1 / (md_across gw gs)) * gs) + gs) gh) hx hb hr (fun t ht hW => ⟨⟨_, (), rfl, (show md_least (((a1 / (md_across gw gs)) * gs) + gs) gh = md_edge gw gh gs a1 a2 by unfold md_edge; rw [if_neg c_1, if_neg c_2, if_neg c_3]), trivial⟩, hS.F ht⟩) hS.2.2 dX1_edge_85
def md_touch (gw gh gs : Int32) (f1 f2 f3 f4 : Nat → Int32) (a1 a2 : Int32) : Int32 := (if (md_isEmpty (md_great (f1 a1.toNatClampNeg) (md_edge gw gh gs a2 0)) (md_great (f2 a1.toNatClampNeg) (md_edge gw gh gs a2 1)) (md_least (f3 a1.toNatClampNeg) (md_edge gw gh gs a2 2)) (md_least (f4 a1.toNatClampNeg) (md_edge gw gh gs a2 3))) = 0 then 1 else 0)
set_option maxHeartbeats 4000000 in
set_option maxRecDepth 100000 in
theorem mtX1_touches (l : Launch) (dC : Nat → ClassId) (dI : Nat → Nat → Nat) (g0 r1 r2 r3 r4 r5 : Nat) (cB1 cB2 cB3 cB4 cB5 : ClassId) (gt gw gh gs ge gi gk go ga : Int32) (f1 f2 f3 f4 f5 : Nat → Int32) (sz : Nat) (a1 a2 : Int32) (hs0 : ¬ gs = 0) (hac : ¬ md_across gw gs = 0) (hi : vp_in a1 4096) : Met l yX1_touches wsX1_touches ({ frames := 2, cells := 0, slots := 0, locals := 45 }) (va_Pc [.ref g0, .int a1, .int a2] (ro_P (dC, dI) vwCl [(g0, .inr (1, [.int gt, .int gw, .int gh, .int gs, .int ge, .int gi, .int gk, .ref r1, .ref r2, .ref r3, .ref r4, .ref r5, .int go, .int ga])), (r1, .inl (cB1, 4096, .inl f1)), (r2, .inl (cB2, 4096, .inl f2)), (r3, .inl (cB3, 4096, .inl f3)), (r4, .inl (cB4, 4096, .inl f4)), (r5, .inl (cB5, 4096, .inl f5))] [(cB1, .int), (cB2, .int), (cB3, .int), (cB4, .int), (cB5, .int)] sz)) (va_Qi (fun (r : Int32) (_ : Unit) => r = md_touch gw gh gs f1 f2 f3 f4 a1 a2) (fun _ _ => True) (ro_A sz)) 0 0 (ro_A sz) := by
  refine Met.ofW (cc := cX1_touches) (maxL := 3) (ret := (some .boolean)) (by decide) rfl ?_
  intro p e s m args below meth c s₁ B hml hv
  obtain ⟨rfl, hsz, hP, hK⟩ := hv
  have hx := B.exec
  have hb := B.bytes
  have hr := B.returns
  have hts : ∀ w ∈ gb, w.before _ s = true := fun w h => atoms_spec (ws := wsX1_touches) B.pre w (List.mem_cons_of_mem _ h)
  have hown : s.vm.findClass "TileBinsModel" = some m.cls := findClass_of_methodNamed B.named
  have hlocks := B.notSynchronized
  subst hsz
  have hA : ∀ q : Nat, s.heap.size ≤ q → ro_A s.heap.size q := fun q h => h
  have hS : va_S (ro_A s.heap.size) s.heap s.heap [] := va_S.rf
  have hl := lv_entry ([.ref g0, .int a1, .int a2]) (n := 3) (Nat.le_of_ble_eq_true rfl)
  rw [lg_entry_eq]
  generalize (lg_sl ([.ref g0, .int a1, .int a2]) ++ List.replicate (3 - (lg_sl ([.ref g0, .int a1, .int a2])).length) Slot.unset).toArray = ls at hl ⊢
  have hl : lv_has ls 3 [(0, .ref g0), (1, .int a1), (2, .int a2)] := hl
  refine lv_aload_n hx hb dX1_touches_0 rfl (lv_at hl 0 rfl) ?_
  refine va_get (D := (dC, dI)) (ci := 1) (v := .ref r1) (C := "TileBinsModel") (T := TX1) (N := 14) hx hb hts inX1 hown hK hP 0 rfl rfl 7 (by decide) (hts _ kw_334) (fun _ h9 => h9) rfl dX1_touches_1 ?_
  refine lv_iload_n hx hb dX1_touches_4 rfl (lv_at hl 1 rfl) ?_
  refine va_iald hx hb hK hP 1 0 rfl rfl hi dX1_touches_5 ?_
  refine lv_aload_n hx hb dX1_touches_6 rfl (lv_at hl 0 rfl) ?_
  refine lv_iload_n hx hb dX1_touches_7 rfl (lv_at hl 2 rfl) ?_
  refine lv_iconst (v := 0) hx hb dX1_touches_8 (by first | rfl | decide) ?_
  refine ro_calli (va_runV (As := [.int a2, .int 0]) (rest := [.int (f1 a1.toNatClampNeg)]) ⟨hx, hb, hml, hown, hts⟩ (mtX1_edge l dC dI g0 r1 r2 r3 r4 r5 cB1 cB2 cB3 cB4 cB5 gt gw gh gs ge gi gk go ga f1 f2 f3 f4 f5 s.heap.size a2 0 hs0 hac) (cwV 2 hts (gb_v kw_414 kw_416 kw_18 kw_23 kw_417) rfl rfl rfl (by decide +kernel) ⟨Nat.le_of_ble_eq_true rfl, Nat.le_of_ble_eq_true rfl⟩) ⟨ro_P.blind, va_recv hK hP (ci := 1) (q0 := 0) rfl rfl, ro_P.at hP hK⟩ rfl rfl hl.1 rfl (lv_room (Nat.le_of_ble_eq_true rfl)) dX1_touches_9 ⟨Nat.le_of_ble_eq_true rfl, Nat.le_of_ble_eq_true rfl⟩) hP hS hA (fun H locs hP hS hz hk => ?_)
  refine ro_calli (va_runS (As := [.int (f1 a1.toNatClampNeg), .int (md_edge gw gh gs a2 0)]) (rest := []) ⟨hx, hb, hml, hown, hts⟩ (mtX1_greatest l dC dI  H.size (f1 a1.toNatClampNeg) (md_edge gw gh gs a2 0)) (va_cwS 2 hts (gb_s kw_397 kw_398 kw_23 kw_399) rfl rfl rfl (by decide +kernel) ⟨Nat.le_of_ble_eq_true rfl, Nat.le_of_ble_eq_true rfl⟩) ⟨ro_P.blind, ro_P.at (hP.sub [] rfl) (hK.sub [] rfl)⟩ rfl rfl hl.1 rfl (lv_room (Nat.le_of_ble_eq_true rfl)) dX1_touches_12 ⟨Nat.le_of_ble_eq_true rfl, Nat.le_of_ble_eq_true rfl⟩) hP hS hA (fun H locs hP hS hz hk => ?_)
  refine lv_aload_n hx hb dX1_touches_15 rfl (lv_at hl 0 rfl) ?_
  refine va_get (D := (dC, dI)) (ci := 1) (v := .ref r2) (C := "TileBinsModel") (T := TX1) (N := 14) hx hb hts inX1 hown hK hP 0 rfl rfl 8 (by decide) (hts _ kw_335) (fun _ h9 => h9) rfl dX1_touches_16 ?_
  refine lv_iload_n hx hb dX1_touches_19 rfl (lv_at hl 1 rfl) ?_
  refine va_iald hx hb hK hP 2 1 rfl rfl hi dX1_touches_20 ?_
  refine lv_aload_n hx hb dX1_touches_21 rfl (lv_at hl 0 rfl) ?_
  refine lv_iload_n hx hb dX1_touches_22 rfl (lv_at hl 2 rfl) ?_
  refine lv_iconst (v := 1) hx hb dX1_touches_23 (by first | rfl | decide) ?_
  refine ro_calli (va_runV (As := [.int a2, .int 1]) (rest := [.int (f2 a1.toNatClampNeg), .int (md_great (f1 a1.toNatClampNeg) (md_edge gw gh gs a2 0))]) ⟨hx, hb, hml, hown, hts⟩ (mtX1_edge l dC dI g0 r1 r2 r3 r4 r5 cB1 cB2 cB3 cB4 cB5 gt gw gh gs ge gi gk go ga f1 f2 f3 f4 f5 H.size a2 1 hs0 hac) (cwV 2 hts (gb_v kw_414 kw_416 kw_18 kw_23 kw_417) rfl rfl rfl (by decide +kernel) ⟨Nat.le_of_ble_eq_true rfl, Nat.le_of_ble_eq_true rfl⟩) ⟨ro_P.blind, va_recv hK hP (ci := 1) (q0 := 0) rfl rfl, ro_P.at hP hK⟩ rfl rfl hl.1 rfl (lv_room (Nat.le_of_ble_eq_true rfl)) dX1_touches_24 ⟨Nat.le_of_ble_eq_true rfl, Nat.le_of_ble_eq_true rfl⟩) hP hS hA (fun H locs hP hS hz hk => ?_)
  refine ro_calli (va_runS (As := [.int (f2 a1.toNatClampNeg), .int (md_edge gw gh gs a2 1)]) (rest := [.int (md_great (f1 a1.toNatClampNeg) (md_edge gw gh gs a2 0))]) ⟨hx, hb, hml, hown, hts⟩ (mtX1_greatest l dC dI  H.size (f2 a1.toNatClampNeg) (md_edge gw gh gs a2 1)) (va_cwS 2 hts (gb_s kw_397 kw_398 kw_23 kw_399) rfl rfl rfl (by decide +kernel) ⟨Nat.le_of_ble_eq_true rfl, Nat.le_of_ble_eq_true rfl⟩) ⟨ro_P.blind, ro_P.at (hP.sub [] rfl) (hK.sub [] rfl)⟩ rfl rfl hl.1 rfl (lv_room (Nat.le_of_ble_eq_true rfl)) dX1_touches_27 ⟨Nat.le_of_ble_eq_true rfl, Nat.le_of_ble_eq_true rfl⟩) hP hS hA (fun H locs hP hS hz hk => ?_)
  refine lv_aload_n hx hb dX1_touches_30 rfl (lv_at hl 0 rfl) ?_
  refine va_get (D := (dC, dI)) (ci := 1) (v := .ref r3) (C := "TileBinsModel") (T := TX1) (N := 14) hx hb hts inX1 hown hK hP 0 rfl rfl 9 (by decide) (hts _ kw_336) (fun _ h9 => h9) rfl dX1_touches_31 ?_
  refine lv_iload_n hx hb dX1_touches_34 rfl (lv_at hl 1 rfl) ?_
  refine va_iald hx hb hK hP 3 2 rfl rfl hi dX1_touches_35 ?_
  refine lv_aload_n hx hb dX1_touches_36 rfl (lv_at hl 0 rfl) ?_
  refine lv_iload_n hx hb dX1_touches_37 rfl (lv_at hl 2 rfl) ?_
  refine lv_iconst (v := 2) hx hb dX1_touches_38 (by first | rfl | decide) ?_
  refine ro_calli (va_runV (As := [.int a2, .int 2]) (rest := [.int (f3 a1.toNatClampNeg), .int (md_great (f2 a1.toNatClampNeg) (md_edge gw gh gs a2 1)), .int (md_great (f1 a1.toNatClampNeg) (md_edge gw gh gs a2 0))]) ⟨hx, hb, hml, hown, hts⟩ (mtX1_edge l dC dI g0 r1 r2 r3 r4 r5 cB1 cB2 cB3 cB4 cB5 gt gw gh gs ge gi gk go ga f1 f2 f3 f4 f5 H.size a2 2 hs0 hac) (cwV 2 hts (gb_v kw_414 kw_416 kw_18 kw_23 kw_417) rfl rfl rfl (by decide +kernel) ⟨Nat.le_of_ble_eq_true rfl, Nat.le_of_ble_eq_true rfl⟩) ⟨ro_P.blind, va_recv hK hP (ci := 1) (q0 := 0) rfl rfl, ro_P.at hP hK⟩ rfl rfl hl.1 rfl (lv_room (Nat.le_of_ble_eq_true rfl)) dX1_touches_39 ⟨Nat.le_of_ble_eq_true rfl, Nat.le_of_ble_eq_true rfl⟩) hP hS hA (fun H locs hP hS hz hk => ?_)
  refine ro_calli (va_runS (As := [.int (f3 a1.toNatClampNeg), .int (md_edge gw gh gs a2 2)]) (rest := [.int (md_great (f2 a1.toNatClampNeg) (md_edge gw gh gs a2 1)), .int (md_great (f1 a1.toNatClampNeg) (md_edge gw gh gs a2 0))]) ⟨hx, hb, hml, hown, hts⟩ (mtX1_least l dC dI  H.size (f3 a1.toNatClampNeg) (md_edge gw gh gs a2 2)) (va_cwS 2 hts (gb_s kw_400 kw_401 kw_23 kw_402) rfl rfl rfl (by decide +kernel) ⟨Nat.le_of_ble_eq_true rfl, Nat.le_of_ble_eq_true rfl⟩) ⟨ro_P.blind, ro_P.at (hP.sub [] rfl) (hK.sub [] rfl)⟩ rfl rfl hl.1 rfl (lv_room (Nat.le_of_ble_eq_true rfl)) dX1_touches_42 ⟨Nat.le_of_ble_eq_true rfl, Nat.le_of_ble_eq_true rfl⟩) hP hS hA (fun H locs hP hS hz hk => ?_)
  refine lv_aload_n hx hb dX1_touches_45 rfl (lv_at hl 0 rfl) ?_
  refine va_get (D := (dC, dI)) (ci := 1) (v := .ref r4) (C := "TileBinsModel") (T := TX1) (N := 14) hx hb hts inX1 hown hK hP 0 rfl rfl 10 (by decide) (hts _ kw_337) (fun _ h9 => h9) rfl dX1_touches_46 ?_
  refine lv_iload_n hx hb dX1_touches_49 rfl (lv_at hl 1 rfl) ?_
  refine va_iald hx hb hK hP 4 3 rfl rfl hi dX1_touches_50 ?_
  refine lv_aload_n hx hb dX1_touches_51 rfl (lv_at hl 0 rfl) ?_
  refine lv_iload_n hx hb dX1_touches_52 rfl (lv_at hl 2 rfl) ?_
  refine lv_iconst (v := 3) hx hb dX1_touches_53 (by first | rfl | decide) ?_
  refine ro_calli (va_runV (As := [.int a2, .int 3]) (rest := [.int (f4 a1.toNatClampNeg), .int (md_least (f3 a1.toNatClampNeg) (md_edge gw gh gs a2 2)), .int (md_great (f2 a1.toNatClampNeg) (md_edge gw gh gs a2 1)), .int (md_great (f1 a1.toNatClampNeg) (md_edge gw gh gs a2 0))]) ⟨hx, hb, hml, hown, hts⟩ (mtX1_edge l dC dI g0 r1 r2 r3 r4 r5 cB1 cB2 cB3 cB4 cB5 gt gw gh gs ge gi gk go ga f1 f2 f3 f4 f5 H.size a2 3 hs0 hac) (cwV 2 hts (gb_v kw_414 kw_416 kw_18 kw_23 kw_417) rfl rfl rfl (by decide +kernel) ⟨Nat.le_of_ble_eq_true rfl, Nat.le_of_ble_eq_true rfl⟩) ⟨ro_P.blind, va_recv hK hP (ci := 1) (q0 := 0) rfl rfl, ro_P.at hP hK⟩ rfl rfl hl.1 rfl (lv_room (Nat.le_of_ble_eq_true rfl)) dX1_touches_54 ⟨Nat.le_of_ble_eq_true rfl, Nat.le_of_ble_eq_true rfl⟩) hP hS hA (fun H locs hP hS hz hk => ?_)
  refine ro_calli (va_runS (As := [.int (f4 a1.toNatClampNeg), .int (md_edge gw gh gs a2 3)]) (rest := [.int (md_least (f3 a1.toNatClampNeg) (md_edge gw gh gs a2 2)), .int (md_great (f2 a1.toNatClampNeg) (md_edge gw gh gs a2 1)), .int (md_great (f1 a1.toNatClampNeg) (md_edge gw gh gs a2 0))]) ⟨hx, hb, hml, hown, hts⟩ (mtX1_least l dC dI  H.size (f4 a1.toNatClampNeg) (md_edge gw gh gs a2 3)) (va_cwS 2 hts (gb_s kw_400 kw_401 kw_23 kw_402) rfl rfl rfl (by decide +kernel) ⟨Nat.le_of_ble_eq_true rfl, Nat.le_of_ble_eq_true rfl⟩) ⟨ro_P.blind, ro_P.at (hP.sub [] rfl) (hK.sub [] rfl)⟩ rfl rfl hl.1 rfl (lv_room (Nat.le_of_ble_eq_true rfl)) dX1_touches_57 ⟨Nat.le_of_ble_eq_true rfl, Nat.le_of_ble_eq_true rfl⟩) hP hS hA (fun H locs hP hS hz hk => ?_)
  refine ro_calli (va_runS (As := [.int (md_great (f1 a1.toNatClampNeg) (md_edge gw gh gs a2 0)), .int (md_great (f2 a1.toNatClampNeg) (md_edge gw gh gs a2 1)), .int (md_least (f3 a1.toNatClampNeg) (md_edge gw gh gs a2 2)), .int (md_least (f4 a1.toNatClampNeg) (md_edge gw gh gs a2 3))]) (rest := []) ⟨hx, hb, hml, hown, hts⟩ (mtX1_isEmpty l dC dI  H.size (md_great (f1 a1.toNatClampNeg) (md_edge gw gh gs a2 0)) (md_great (f2 a1.toNatClampNeg) (md_edge gw gh gs a2 1)) (md_least (f3 a1.toNatClampNeg) (md_edge gw gh gs a2 2)) (md_least (f4 a1.toNatClampNeg) (md_edge gw gh gs a2 3))) (va_cwS 4 hts (gb_s kw_403 kw_404 kw_23 kw_405) rfl rfl rfl (by decide +kernel) ⟨Nat.le_of_ble_eq_true rfl, Nat.le_of_ble_eq_true rfl⟩) ⟨ro_P.blind, ro_P.at (hP.sub [] rfl) (hK.sub [] rfl)⟩ rfl rfl hl.1 rfl (lv_room (Nat.le_of_ble_eq_true rfl)) dX1_touches_60 ⟨Nat.le_of_ble_eq_true rfl, Nat.le_of_ble_eq_true rfl⟩) hP hS hA (fun H locs hP hS hz hk => ?_)
  refine lv_if_ne (tgt := 70) hx hb dX1_touches_63 (by decide) (fun c_1 => ?_) (fun c_1 => ?_)
  · refine lv_iconst (v := 0) hx hb dX1_touches_70 (by first | rfl | decide) ?_
    exact W.zret (v := 0) hx hb hr (by first | rfl | (unfold md_in; (repeat' split) <;> rfl)) (fun t ht hW => ⟨⟨_, (), rfl, (show 0 = md_touch gw gh gs f1 f2 f3 f4 a1 a2 by unfold md_touch; rw [if_neg c_1]), trivial⟩, hS.F ht⟩) hS.2.2 dX1_touches_71
  · refine lv_iconst (v := 1) hx hb dX1_touches_66 (by first | rfl | decide) ?_
    refine lv_goto (tgt := 71) hx hb dX1_touches_67 (by decide) ?_
    exact W.zret (v := 1) hx hb hr (by first | rfl | (unfold md_in; (repeat' split) <;> rfl)) (fun t ht hW => ⟨⟨_, (), rfl, (show 1 = md_touch gw gh gs f1 f2 f3 f4 a1 a2 by unfold md_touch; rw [if_pos c_1]), trivial⟩, hS.F ht⟩) hS.2.2 dX1_touches_71
/-- how many of the first tiles the item touches -/
def md_ct (gw gh gs : Int32) (f1 f2 f3 f4 : Nat → Int32) (a1 : Int32) : Nat → Int32
  | 0 => 0
  | j + 1 => if md_touch gw gh gs f1 f2 f3 f4 a1 (nI j) = 0 then md_ct gw gh gs f1 f2 f3 f4 a1 j else md_ct gw gh gs f1 f2 f3 f4 a1 j + 1
theorem md_ct_s (gw gh gs : Int32) (f1 f2 f3 f4 : Nat → Int32) (a1 : Int32) (j : Nat) : md_ct gw gh gs f1 f2 f3 f4 a1 (j + 1) = if md_touch gw gh gs f1 f2 f3 f4 a1 (nI j) = 0 then md_ct gw gh gs f1 f2 f3 f4 a1 j else md_ct gw gh gs f1 f2 f3 f4 a1 j + 1 := rfl
def md_tilesOf (gw gh gs : Int32) (f1 f2 f3 f4 : Nat → Int32) (a1 : Int32) : Int32 := md_ct gw gh gs f1 f2 f3 f4 a1 (md_tiles gw gh gs).toNatClampNeg
/-- how many of the first items touch the tile -/
def md_cm (gw gh gs : Int32) (f1 f2 f3 f4 : Nat → Int32) (a1 : Int32) : Nat → Int32
  | 0 => 0
  | j + 1 => if md_touch gw gh gs f1 f2 f3 f4 (nI j) a1 = 0 then md_cm gw gh gs f1 f2 f3 f4 a1 j else md_cm gw gh gs f1 f2 f3 f4 a1 j + 1
theorem md_cm_s (gw gh gs : Int32) (f1 f2 f3 f4 : Nat → Int32) (a1 : Int32) (j : Nat) : md_cm gw gh gs f1 f2 f3 f4 a1 (j + 1) = if md_touch gw gh gs f1 f2 f3 f4 (nI j) a1 = 0 then md_cm gw gh gs f1 f2 f3 f4 a1 j else md_cm gw gh gs f1 f2 f3 f4 a1 j + 1 := rfl
def md_manyOf (gi : Int32) (gw gh gs : Int32) (f1 f2 f3 f4 : Nat → Int32) (a1 : Int32) : Int32 := md_cm gw gh gs f1 f2 f3 f4 a1 gi.toNatClampNeg
set_option maxHeartbeats 4000000 in
set_option maxRecDepth 100000 in
theorem mtX1_tilesOf (l : Launch) (dC : Nat → ClassId) (dI : Nat → Nat → Nat) (g0 r1 r2 r3 r4 r5 : Nat) (cB1 cB2 cB3 cB4 cB5 : ClassId) (gt gw gh gs ge gi gk go ga : Int32) (f1 f2 f3 f4 f5 : Nat → Int32) (sz : Nat) (a1 : Int32) (hs0 : ¬ gs = 0) (hac : ¬ md_across gw gs = 0) (hi : vp_in a1 4096) (N : Nat) (hN : md_tiles gw gh gs = nI N) (h31 : N < 2 ^ 31) : Met l yX1_tilesOf wsX1_tilesOf ({ frames := 3, cells := 0, slots := 0, locals := 67 }) (va_Pc [.ref g0, .int a1] (ro_P (dC, dI) vwCl [(g0, .inr (1, [.int gt, .int gw, .int gh, .int gs, .int ge, .int gi, .int gk, .ref r1, .ref r2, .ref r3, .ref r4, .ref r5, .int go, .int ga])), (r1, .inl (cB1, 4096, .inl f1)), (r2, .inl (cB2, 4096, .inl f2)), (r3, .inl (cB3, 4096, .inl f3)), (r4, .inl (cB4, 4096, .inl f4)), (r5, .inl (cB5, 4096, .inl f5))] [(cB1, .int), (cB2, .int), (cB3, .int), (cB4, .int), (cB5, .int)] sz)) (va_Qi (fun (r : Int32) (_ : Unit) => r = md_tilesOf gw gh gs f1 f2 f3 f4 a1) (fun _ _ => True) (ro_A sz)) 0 0 (ro_A sz) := by
  refine Met.ofW (cc := cX1_tilesOf) (maxL := 4) (ret := (some .int)) (by decide) rfl ?_
  intro p e s m args below meth c s₁ B hml hv
  obtain ⟨rfl, hsz, hP, hK⟩ := hv
  have hx := B.exec
  have hb := B.bytes
  have hr := B.returns
  have hts : ∀ w ∈ gb, w.before _ s = true := fun w h => atoms_spec (ws := wsX1_tilesOf) B.pre w (List.mem_cons_of_mem _ h)
  have hown : s.vm.findClass "TileBinsModel" = some m.cls := findClass_of_methodNamed B.named
  have hlocks := B.notSynchronized
  subst hsz
  have hA : ∀ q : Nat, s.heap.size ≤ q → ro_A s.heap.size q := fun q h => h
  have hS : va_S (ro_A s.heap.size) s.heap s.heap [] := va_S.rf
  have hl := lv_entry ([.ref g0, .int a1]) (n := 4) (Nat.le_of_ble_eq_true rfl)
  rw [lg_entry_eq]
  generalize (lg_sl ([.ref g0, .int a1]) ++ List.replicate (4 - (lg_sl ([.ref g0, .int a1])).length) Slot.unset).toArray = ls at hl ⊢
  have hl : lv_has ls 4 [(0, .ref g0), (1, .int a1)] := hl
  refine lv_iconst (v := 0) hx hb dX1_tilesOf_0 (by first | rfl | decide) ?_
  refine lv_istore_n (lv' := [(2, .int 0), (0, .ref g0), (1, .int a1)]) hx hb dX1_tilesOf_1 rfl hl (by decide) rfl (fun ls hl => ?_)
  refine lv_iconst (v := 0) hx hb dX1_tilesOf_2 (by first | rfl | decide) ?_
  refine lv_istore_n (lv' := [(3, .int 0), (2, .int 0), (0, .ref g0), (1, .int a1)]) hx hb dX1_tilesOf_3 rfl hl (by decide) rfl (fun ls hl => ?_)
  refine loopW (pc := 4) (fun d H locs ls => ∃ (j : Nat) (y2 : Int32), j + d = N ∧ y2 = md_ct gw gh gs f1 f2 f3 f4 a1 j ∧ va_P (dC, dI) vwCl [(g0, .inr (1, [.int gt, .int gw, .int gh, .int gs, .int ge, .int gi, .int gk, .ref r1, .ref r2, .ref r3, .ref r4, .ref r5, .int go, .int ga])), (r1, .inl (cB1, 4096, .inl f1)), (r2, .inl (cB2, 4096, .inl f2)), (r3, .inl (cB3, 4096, .inl f3)), (r4, .inl (cB4, 4096, .inl f4)), (r5, .inl (cB5, 4096, .inl f5))] H ∧ va_S (ro_A s.heap.size) s.heap H locs ∧ lv_has ls 4 [(3, .int (nI j)), (2, .int y2), (0, .ref g0), (1, .int a1)]) (fun d H locs ls hI ih => ?_) N ⟨0, 0, by omega, rfl, hP, hS, hl⟩
  obtain ⟨j, y2, hjd, hy, hP, hS, hl⟩ := hI
  refine lv_iload_n hx hb dX1_tilesOf_4 rfl (lv_at hl 0 rfl) ?_
  refine lv_aload_n hx hb dX1_tilesOf_5 rfl (lv_at hl 2 rfl) ?_
  refine ro_calli (va_runV (As := []) (rest := [.int (nI j)]) ⟨hx, hb, hml, hown, hts⟩ (mtX1_tiles l dC dI g0 r1 r2 r3 r4 r5 cB1 cB2 cB3 cB4 cB5 gt gw gh gs ge gi gk go ga f1 f2 f3 f4 f5 H.size  hs0) (cwV 0 hts (gb_v kw_385 kw_387 kw_14 kw_23 kw_388) rfl rfl rfl (by decide +kernel) ⟨Nat.le_of_ble_eq_true rfl, Nat.le_of_ble_eq_true rfl⟩) ⟨ro_P.blind, va_recv hK hP (ci := 1) (q0 := 0) rfl rfl, ro_P.at hP hK⟩ rfl rfl hl.1 rfl (lv_room (Nat.le_of_ble_eq_true rfl)) dX1_tilesOf_6 ⟨Nat.le_of_ble_eq_true rfl, Nat.le_of_ble_eq_true rfl⟩) hP hS hA (fun H locs hP hS hz hk => ?_)
  refine lv_icmp_ge (tgt := 35) hx hb dX1_tilesOf_9 (by decide) (fun c_1 => ?_) (fun c_1 => ?_)
  · refine lv_iload_n hx hb dX1_tilesOf_35 rfl (lv_at hl 1 rfl) ?_
    exact W.iret (v := y2) hx hb hr (fun t ht hW => ⟨⟨_, (), rfl, (by have hjN := lm_end hN h31 (by omega) c_1; show _ = md_tilesOf gw gh gs f1 f2 f3 f4 a1; rw [hy, hjN]; unfold md_tilesOf; rw [hN, nI_clamp h31]), trivial⟩, hS.F ht⟩) hS.2.2 dX1_tilesOf_36
  · refine lv_aload_n hx hb dX1_tilesOf_12 rfl (lv_at hl 2 rfl) ?_
    refine lv_iload_n hx hb dX1_tilesOf_13 rfl (lv_at hl 3 rfl) ?_
    refine lv_iload_n hx hb dX1_tilesOf_14 rfl (lv_at hl 0 rfl) ?_
    refine ro_calli (va_runV (As := [.int a1, .int (nI j)]) (rest := []) ⟨hx, hb, hml, hown, hts⟩ (mtX1_touches l dC dI g0 r1 r2 r3 r4 r5 cB1 cB2 cB3 cB4 cB5 gt gw gh gs ge gi gk go ga f1 f2 f3 f4 f5 H.size a1 (nI j) hs0 hac hi) (cwV 2 hts (gb_v kw_410 kw_412 kw_17 kw_23 kw_413) rfl rfl rfl (by decide +kernel) ⟨Nat.le_of_ble_eq_true rfl, Nat.le_of_ble_eq_true rfl⟩) ⟨ro_P.blind, va_recv hK hP (ci := 1) (q0 := 0) rfl rfl, ro_P.at hP hK⟩ rfl rfl hl.1 rfl (lv_room (Nat.le_of_ble_eq_true rfl)) dX1_tilesOf_15 ⟨Nat.le_of_ble_eq_true rfl, Nat.le_of_ble_eq_true rfl⟩) hP hS hA (fun H locs hP hS hz hk => ?_)
    refine lv_if_eq (tgt := 27) hx hb dX1_tilesOf_18 (by decide) (fun c_2 => ?_) (fun c_2 => ?_)
    · refine lv_iload_n hx hb dX1_tilesOf_27 rfl (lv_at hl 1 rfl) ?_
      refine lv_istore_n (lv' := [(2, .int y2), (3, .int (nI j)), (0, .ref g0), (1, .int a1)]) hx hb dX1_tilesOf_28 rfl hl (by decide) rfl (fun ls hl => ?_)
      refine lv_iinc (v := (nI j) + 1) (lv' := [(3, .int ((nI j) + 1)), (2, .int y2), (0, .ref g0), (1, .int a1)]) hx hb dX1_tilesOf_29 hl (k := 1) rfl (by rfl) (by decide) rfl (fun ls hl => ?_)
      refine lv_goto (tgt := 4) hx hb dX1_tilesOf_32 (by decide) ?_
      rw [nI_1] at hl
      exact ih (d - 1) _ _ _ (by have := lm_go hN h31 (by omega) c_1; omega) ⟨j + 1, _, by have := lm_go hN h31 (by omega) c_1; omega, (by rw [md_ct_s, if_pos c_2, hy]), hP, hS, lv_sub hl [0, 1, 2, 3] rfl⟩
    · refine lv_iload_n hx hb dX1_tilesOf_21 rfl (lv_at hl 1 rfl) ?_
      refine lv_iconst (v := 1) hx hb dX1_tilesOf_22 (by first | rfl | decide) ?_
      refine lv_iadd hx hb dX1_tilesOf_23 ?_
      refine lv_goto (tgt := 28) hx hb dX1_tilesOf_24 (by decide) ?_
      refine lv_istore_n (lv' := [(2, .int (y2 + 1)), (3, .int (nI j)), (0, .ref g0), (1, .int a1)]) hx hb dX1_tilesOf_28 rfl hl (by decide) rfl (fun ls hl => ?_)
      refine lv_iinc (v := (nI j) + 1) (lv' := [(3, .int ((nI j) + 1)), (2, .int (y2 + 1)), (0, .ref g0), (1, .int a1)]) hx hb dX1_tilesOf_29 hl (k := 1) rfl (by rfl) (by decide) rfl (fun ls hl => ?_)
      refine lv_goto (tgt := 4) hx hb dX1_tilesOf_32 (by decide) ?_
      rw [nI_1] at hl
      exact ih (d - 1) _ _ _ (by have := lm_go hN h31 (by omega) c_1; omega) ⟨j + 1, _, by have := lm_go hN h31 (by omega) c_1; omega, (by rw [md_ct_s, if_neg c_2, hy]), hP, hS, lv_sub hl [0, 1, 2, 3] rfl⟩
set_option maxHeartbeats 4000000 in
set_option maxRecDepth 100000 in
theorem mtX1_manyOf (l : Launch) (dC : Nat → ClassId) (dI : Nat → Nat → Nat) (g0 r1 r2 r3 r4 r5 : Nat) (cB1 cB2 cB3 cB4 cB5 : ClassId) (gt gw gh gs ge gi gk go ga : Int32) (f1 f2 f3 f4 f5 : Nat → Int32) (sz : Nat) (a1 : Int32) (hs0 : ¬ gs = 0) (hac : ¬ md_across gw gs = 0) (N : Nat) (hN : gi = nI N) (hN4 : N ≤ 4096) : Met l yX1_manyOf wsX1_manyOf ({ frames := 3, cells := 0, slots := 0, locals := 67 }) (va_Pc [.ref g0, .int a1] (ro_P (dC, dI) vwCl [(g0, .inr (1, [.int gt, .int gw, .int gh, .int gs, .int ge, .int gi, .int gk, .ref r1, .ref r2, .ref r3, .ref r4, .ref r5, .int go, .int ga])), (r1, .inl (cB1, 4096, .inl f1)), (r2, .inl (cB2, 4096, .inl f2)), (r3, .inl (cB3, 4096, .inl f3)), (r4, .inl (cB4, 4096, .inl f4)), (r5, .inl (cB5, 4096, .inl f5))] [(cB1, .int), (cB2, .int), (cB3, .int), (cB4, .int), (cB5, .int)] sz)) (va_Qi (fun (r : Int32) (_ : Unit) => r = md_manyOf gi gw gh gs f1 f2 f3 f4 a1) (fun _ _ => True) (ro_A sz)) 0 0 (ro_A sz) := by
  refine Met.ofW (cc := cX1_manyOf) (maxL := 4) (ret := (some .int)) (by decide) rfl ?_
  intro p e s m args below meth c s₁ B hml hv
  obtain ⟨rfl, hsz, hP, hK⟩ := hv
  have hx := B.exec
  have hb := B.bytes
  have hr := B.returns
  have hts : ∀ w ∈ gb, w.before _ s = true := fun w h => atoms_spec (ws := wsX1_manyOf) B.pre w (List.mem_cons_of_mem _ h)
  have hown : s.vm.findClass "TileBinsModel" = some m.cls := findClass_of_methodNamed B.named
  have hlocks := B.notSynchronized
  subst hsz
  have hA : ∀ q : Nat, s.heap.size ≤ q → ro_A s.heap.size q := fun q h => h
  have hS : va_S (ro_A s.heap.size) s.heap s.heap [] := va_S.rf
  have hl := lv_entry ([.ref g0, .int a1]) (n := 4) (Nat.le_of_ble_eq_true rfl)
  rw [lg_entry_eq]
  generalize (lg_sl ([.ref g0, .int a1]) ++ List.replicate (4 - (lg_sl ([.ref g0, .int a1])).length) Slot.unset).toArray = ls at hl ⊢
  have hl : lv_has ls 4 [(0, .ref g0), (1, .int a1)] := hl
  refine lv_iconst (v := 0) hx hb dX1_manyOf_0 (by first | rfl | decide) ?_
  refine lv_istore_n (lv' := [(2, .int 0), (0, .ref g0), (1, .int a1)]) hx hb dX1_manyOf_1 rfl hl (by decide) rfl (fun ls hl => ?_)
  refine lv_iconst (v := 0) hx hb dX1_manyOf_2 (by first | rfl | decide) ?_
  refine lv_istore_n (lv' := [(3, .int 0), (2, .int 0), (0, .ref g0), (1, .int a1)]) hx hb dX1_manyOf_3 rfl hl (by decide) rfl (fun ls hl => ?_)
  refine loopW (pc := 4) (fun d H locs ls => ∃ (j : Nat) (y2 : Int32), j + d = N ∧ y2 = md_cm gw gh gs f1 f2 f3 f4 a1 j ∧ va_P (dC, dI) vwCl [(g0, .inr (1, [.int gt, .int gw, .int gh, .int gs, .int ge, .int gi, .int gk, .ref r1, .ref r2, .ref r3, .ref r4, .ref r5, .int go, .int ga])), (r1, .inl (cB1, 4096, .inl f1)), (r2, .inl (cB2, 4096, .inl f2)), (r3, .inl (cB3, 4096, .inl f3)), (r4, .inl (cB4, 4096, .inl f4)), (r5, .inl (cB5, 4096, .inl f5))] H ∧ va_S (ro_A s.heap.size) s.heap H locs ∧ lv_has ls 4 [(3, .int (nI j)), (2, .int y2), (0, .ref g0), (1, .int a1)]) (fun d H locs ls hI ih => ?_) N ⟨0, 0, by omega, rfl, hP, hS, hl⟩
  obtain ⟨j, y2, hjd, hy, hP, hS, hl⟩ := hI
  refine lv_iload_n hx hb dX1_manyOf_4 rfl (lv_at hl 0 rfl) ?_
  refine lv_aload_n hx hb dX1_manyOf_5 rfl (lv_at hl 2 rfl) ?_
  refine va_get (D := (dC, dI)) (ci := 1) (v := .int gi) (C := "TileBinsModel") (T := TX1) (N := 14) hx hb hts inX1 hown hK hP 0 rfl rfl 5 (by decide) (hts _ kw_332) (fun _ h9 => h9) rfl dX1_manyOf_6 ?_
  refine lv_icmp_ge (tgt := 35) hx hb dX1_manyOf_9 (by decide) (fun c_1 => ?_) (fun c_1 => ?_)
  · refine lv_iload_n hx hb dX1_manyOf_35 rfl (lv_at hl 1 rfl) ?_
    exact W.iret (v := y2) hx hb hr (fun t ht hW => ⟨⟨_, (), rfl, (by have hjN := lm_end hN (by omega) (by omega) c_1; show _ = md_manyOf gi gw gh gs f1 f2 f3 f4 a1; rw [hy, hjN]; unfold md_manyOf; rw [hN, nI_clamp (by omega)]), trivial⟩, hS.F ht⟩) hS.2.2 dX1_manyOf_36
  · refine lv_aload_n hx hb dX1_manyOf_12 rfl (lv_at hl 2 rfl) ?_
    refine lv_iload_n hx hb dX1_manyOf_13 rfl (lv_at hl 0 rfl) ?_
    refine lv_iload_n hx hb dX1_manyOf_14 rfl (lv_at hl 3 rfl) ?_
    refine ro_calli (va_runV (As := [.int (nI j), .int a1]) (rest := []) ⟨hx, hb, hml, hown, hts⟩ (mtX1_touches l dC dI g0 r1 r2 r3 r4 r5 cB1 cB2 cB3 cB4 cB5 gt gw gh gs ge gi gk go ga f1 f2 f3 f4 f5 H.size (nI j) a1 hs0 hac (vp_in_nI (by have := lm_go hN (by omega) (by omega) c_1; omega) (by omega))) (cwV 2 hts (gb_v kw_410 kw_412 kw_17 kw_23 kw_413) rfl rfl rfl (by decide +kernel) ⟨Nat.le_of_ble_eq_true rfl, Nat.le_of_ble_eq_true rfl⟩) ⟨ro_P.blind, va_recv hK hP (ci := 1) (q0 := 0) rfl rfl, ro_P.at hP hK⟩ rfl rfl hl.1 rfl (lv_room (Nat.le_of_ble_eq_true rfl)) dX1_manyOf_15 ⟨Nat.le_of_ble_eq_true rfl, Nat.le_of_ble_eq_true rfl⟩) hP hS hA (fun H locs hP hS hz hk => ?_)
    refine lv_if_eq (tgt := 27) hx hb dX1_manyOf_18 (by decide) (fun c_2 => ?_) (fun c_2 => ?_)
    · refine lv_iload_n hx hb dX1_manyOf_27 rfl (lv_at hl 1 rfl) ?_
      refine lv_istore_n (lv' := [(2, .int y2), (3, .int (nI j)), (0, .ref g0), (1, .int a1)]) hx hb dX1_manyOf_28 rfl hl (by decide) rfl (fun ls hl => ?_)
      refine lv_iinc (v := (nI j) + 1) (lv' := [(3, .int ((nI j) + 1)), (2, .int y2), (0, .ref g0), (1, .int a1)]) hx hb dX1_manyOf_29 hl (k := 1) rfl (by rfl) (by decide) rfl (fun ls hl => ?_)
      refine lv_goto (tgt := 4) hx hb dX1_manyOf_32 (by decide) ?_
      rw [nI_1] at hl
      exact ih (d - 1) _ _ _ (by have := lm_go hN (by omega) (by omega) c_1; omega) ⟨j + 1, _, by have := lm_go hN (by omega) (by omega) c_1; omega, (by rw [md_cm_s, if_pos c_2, hy]), hP, hS, lv_sub hl [0, 1, 2, 3] rfl⟩
    · refine lv_iload_n hx hb dX1_manyOf_21 rfl (lv_at hl 1 rfl) ?_
      refine lv_iconst (v := 1) hx hb dX1_manyOf_22 (by first | rfl | decide) ?_
      refine lv_iadd hx hb dX1_manyOf_23 ?_
      refine lv_goto (tgt := 28) hx hb dX1_manyOf_24 (by decide) ?_
      refine lv_istore_n (lv' := [(2, .int (y2 + 1)), (3, .int (nI j)), (0, .ref g0), (1, .int a1)]) hx hb dX1_manyOf_28 rfl hl (by decide) rfl (fun ls hl => ?_)
      refine lv_iinc (v := (nI j) + 1) (lv' := [(3, .int ((nI j) + 1)), (2, .int (y2 + 1)), (0, .ref g0), (1, .int a1)]) hx hb dX1_manyOf_29 hl (k := 1) rfl (by rfl) (by decide) rfl (fun ls hl => ?_)
      refine lv_goto (tgt := 4) hx hb dX1_manyOf_32 (by decide) ?_
      rw [nI_1] at hl
      exact ih (d - 1) _ _ _ (by have := lm_go hN (by omega) (by omega) c_1; omega) ⟨j + 1, _, by have := lm_go hN (by omega) (by omega) c_1; omega, (by rw [md_cm_s, if_neg c_2, hy]), hP, hS, lv_sub hl [0, 1, 2, 3] rfl⟩
end
