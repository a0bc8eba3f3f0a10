section
-- ===== PART A: goes FIRST, ahead of the names: the tables' words, and 'selects' of the private methods out of them =====
/-- a private method of a class that the tables say can be made, by its rows of tables_1 -/
def lw_okq (q : MethodName × Nat) : Prop := (q.1.cls ≠ "java/lang/invoke/MethodHandle" ∧ q.1.cls ≠ "java/lang/invoke/VarHandle") ∧ Cond.instantiable q.1.cls q.2 ∈ tables_1 ∧ Cond.privateMethod q.1 ∈ tables_1 ∧ Cond.instanceMethod q.1 ∈ tables_1
theorem lw_p0 : lw_okq (⟨"LevelTree$Tree", "putZerosInFront", "(I)V"⟩, 4) := ⟨⟨by decide +kernel, by decide +kernel⟩, List.mem_of_getElem? (i := 23) (by decide +kernel), List.mem_of_getElem? (i := 106) (by decide +kernel), List.mem_of_getElem? (i := 107) (by decide +kernel)⟩
theorem lw_p1 : lw_okq (⟨"java/lang/Throwable", "fillInStackTrace", "(I)Ljava/lang/Throwable;"⟩, 6) := ⟨⟨by decide +kernel, by decide +kernel⟩, List.mem_of_getElem? (i := 164) (by decide +kernel), List.mem_of_getElem? (i := 162) (by decide +kernel), List.mem_of_getElem? (i := 163) (by decide +kernel)⟩
theorem lw_p2 : lw_okq (⟨"LevelTree$Level", "onesBefore", "(I)I"⟩, 4) := ⟨⟨by decide +kernel, by decide +kernel⟩, List.mem_of_getElem? (i := 30) (by decide +kernel), List.mem_of_getElem? (i := 254) (by decide +kernel), List.mem_of_getElem? (i := 255) (by decide +kernel)⟩
theorem lw_p3 : lw_okq (⟨"LevelTree", "checkPart", "(II)V"⟩, 5) := ⟨⟨by decide +kernel, by decide +kernel⟩, List.mem_of_getElem? (i := 15) (by decide +kernel), List.mem_of_getElem? (i := 269) (by decide +kernel), List.mem_of_getElem? (i := 270) (by decide +kernel)⟩
theorem lw_p4 : lw_okq (⟨"LevelTree$Tree", "bottomOf", "(II)I"⟩, 4) := ⟨⟨by decide +kernel, by decide +kernel⟩, List.mem_of_getElem? (i := 23) (by decide +kernel), List.mem_of_getElem? (i := 278) (by decide +kernel), List.mem_of_getElem? (i := 279) (by decide +kernel)⟩
theorem lw_p5 : lw_okq (⟨"LevelTreeModel", "refuse", "(IZ)Z"⟩, 9) := ⟨⟨by decide +kernel, by decide +kernel⟩, List.mem_of_getElem? (i := 357) (by decide +kernel), List.mem_of_getElem? (i := 399) (by decide +kernel), List.mem_of_getElem? (i := 400) (by decide +kernel)⟩
theorem lw_p6 : lw_okq (⟨"LevelTreeModel", "noPart", "(IIZ)Z"⟩, 9) := ⟨⟨by decide +kernel, by decide +kernel⟩, List.mem_of_getElem? (i := 357) (by decide +kernel), List.mem_of_getElem? (i := 419) (by decide +kernel), List.mem_of_getElem? (i := 420) (by decide +kernel)⟩
theorem lw_p7 : lw_okq (⟨"LevelTreeModel", "counted", "(II)V"⟩, 9) := ⟨⟨by decide +kernel, by decide +kernel⟩, List.mem_of_getElem? (i := 357) (by decide +kernel), List.mem_of_getElem? (i := 431) (by decide +kernel), List.mem_of_getElem? (i := 432) (by decide +kernel)⟩
def lw_privs_1 : List (MethodName × Nat) := [(⟨"LevelTree$Tree", "putZerosInFront", "(I)V"⟩, 4), (⟨"java/lang/Throwable", "fillInStackTrace", "(I)Ljava/lang/Throwable;"⟩, 6), (⟨"LevelTree$Level", "onesBefore", "(I)I"⟩, 4), (⟨"LevelTree", "checkPart", "(II)V"⟩, 5), (⟨"LevelTree$Tree", "bottomOf", "(II)I"⟩, 4), (⟨"LevelTreeModel", "refuse", "(IZ)Z"⟩, 9), (⟨"LevelTreeModel", "noPart", "(IIZ)Z"⟩, 9), (⟨"LevelTreeModel", "counted", "(II)V"⟩, 9)]
theorem lw_r1 : ∀ q ∈ lw_privs_1, lw_okq q := List.forall_mem_cons.mpr ⟨lw_p0, List.forall_mem_cons.mpr ⟨lw_p1, List.forall_mem_cons.mpr ⟨lw_p2, List.forall_mem_cons.mpr ⟨lw_p3, List.forall_mem_cons.mpr ⟨lw_p4, List.forall_mem_cons.mpr ⟨lw_p5, List.forall_mem_cons.mpr ⟨lw_p6, List.forall_mem_cons.mpr ⟨lw_p7, fun _ h => absurd h List.not_mem_nil⟩⟩⟩⟩⟩⟩⟩⟩
def lw_privs : List (MethodName × Nat) := lw_privs_1
def lw_tbl : List Cond := k2_sels lw_privs ++ tables_1
theorem lw_privs_ok : ∀ q ∈ lw_privs, lw_okq q := lw_r1
end
section
/-! ===== BEGIN words of one list among another's, by their places ===== -/
theorem goodIn_r {big : List Cond} (ws : List Cond) (ps : List Nat) (hp : ws = ps.filterMap (fun i => big[i]?)) (h : ws.all goodWord = true) : GoodIn big ws := by
  intro w hw
  have h1 := List.all_eq_true.mp h w hw
  rw [hp] at hw
  obtain ⟨i, -, hi⟩ := List.mem_filterMap.mp hw
  have hm : w ∈ big := by first | exact List.mem_of_getElem? hi | exact List.getElem?_mem hi
  exact ⟨hm, good_of_word h1⟩
theorem goodIn_app {big a b : List Cond} (ha : GoodIn big a) (hb : GoodIn big b) : GoodIn big (a ++ b) := fun w h => (List.mem_append.mp h).elim (ha w) (hb w)
theorem goodIn_ca {big a b : List Cond} {c : Cond} (ha : GoodIn big (c :: a)) (hb : GoodIn big b) : GoodIn big (c :: (a ++ b)) := fun w h => (List.mem_cons.mp h).elim (fun e => ha w (List.mem_cons.mpr (Or.inl e))) (fun h => (List.mem_append.mp h).elim (fun h => ha w (List.mem_cons.mpr (Or.inr h))) (hb w))
theorem goodIn_sub {big ws : List Cond} (hm : ∀ w ∈ ws, w ∈ big) (h : ws.all goodWord = true) : GoodIn big ws := fun w hw => ⟨hm w hw, good_of_word (List.all_eq_true.mp h w hw)⟩
/-! ===== END ===== -/

/-! ===== BEGIN exceptions that leave a method, and their catching by the caller (launches without stack traces) ===== -/
section VXA
/-! The laws vx_back, vx_callV, vx_callS, vx_callSW, vx_throw0, vx_throwS follow proofs of the library, with one case more: JvmDerived/Free/Laws.lean (Back.of_free), Shelf42/LK1.lean (callV, callS), Shelf/KitTraced.lean (throwNew0V, throwNewS). -/
/-- where a method has thrown q: the class by its name, the cell, what was written, the world -/
def vx_T (XC : String → State → State → Prop) (st : State) (q : Addr) (t : State) (mc ms : Nat) (free : Addr → Prop) : Prop :=
  ∃ (E : String) (ce : Cell) (L : List Loc), XC E st t ∧ t.heap[q]? = some ce ∧ ce.vm = .none ∧ st.vm.findClass E = some ce.cls ∧ st.WarmedH t.vm ∧ st.sameButNew ({ t with vm := st.vm } : State) L mc ms ∧ ∀ z ∈ L, free z.base
def vx_Q (Qc : Array Value → State → Outcome → State → Prop) (XC : String → State → State → Prop) (mc ms : Nat) (free : Addr → Prop) : Array Value → State → Outcome → State → Prop := fun a st o t =>
  (Qc a st o t ∧ ∃ L, FrameEnd st o t L mc ms ∧ ∀ q ∈ L, free q.base) ∨ ∃ q, o = .threw q ∧ vx_T XC st q t mc ms free
/-- a callee that returns or throws -/
def vx_Met (l : Launch) (y : MethodName) (ws : List Cond) (rm : Room) (Pc : Array Value → State → Prop) (Qc : Array Value → State → Outcome → State → Prop) (XC : String → State → State → Prop) (mc ms : Nat) (free : Addr → Prop) : Prop :=
  MetFree l y (headSpec ws rm) Pc (fun _ _ _ _ _ => True) (vx_Q Qc XC mc ms free)
def vx_Post (XC : String → State → State → Prop) (mc ms : Nat) (free : Addr → Prop) : Pt → Array Value → Addr → Pt → Prop := fun A a q B =>
  ∃ (g : JFrame) (mk : MethodId) (t : State) (L : List Loc) (E : String) (ce : Cell), B.U.heap = t.heap ∧ B.U.vm = t.vm ∧ XC E (A.U.calling g mk a) t ∧ t.heap[q]? = some ce ∧ ce.vm = .none ∧ A.U.vm.findClass E = some ce.cls ∧ B.locs = A.locs ++ L ∧ (∀ z ∈ L, free z.base) ∧ B.cells = A.cells + mc ∧ B.slots = A.slots + ms
def vx_Back (l : Launch) (R : Room) (p : Program) (e : Env) (below : List Frame) (s : State) (sargs : Array Value) (y : MethodName) (len W9 : Nat)
    (Pre : Pt → Array Value → Prop) (Post : Pt → Array Value → Option Value → Pt → Prop) (PostX : Pt → Array Value → Addr → Pt → Prop) : Prop :=
  ∀ (m : MethodId) (meth : Method) (c : Code) (A : Pt) (g : JFrame) (ig : Instr) (mk : MethodId) (a : Array Value),
    Stand p l e R s m sargs below meth c A.U A.locs A.cells A.slots → g.method = m → g.locals.size = c.maxLocals → decode c.code g.pc = .ok (ig, len) →
    2 * g.monitorRoom + (g.stack.map fun v => v.category).sum ≤ W9 → A.U.methodNamed? y = some mk → Pre A a →
    (∃ (v : Option Value) (B : Pt), Stand p l e R s m sargs below meth c B.U B.locs B.cells B.slots ∧ Post A a v B ∧
      Steps p.tables e below (doInvoke e (A.U.setTop g) [] mk a).1 (B.U.setTop { g with pc := g.pc + len, stack := v.toList ++ g.stack })) ∨
    (∃ (q : Addr) (B : Pt), Stand p l e R s m sargs below meth c B.U B.locs B.cells B.slots ∧ PostX A a q B ∧
      Steps p.tables e below (doInvoke e (A.U.setTop g) [] mk a).1 ((B.U.setTop g).pushFrame (.throwing q)))
section Payer
variable {l : Launch} {R : Room} {p : Program} {e : Env} {below : List Frame} {s : State} {sargs : Array Value} {y : MethodName} {len W9 : Nat}
theorem vx_back {ws : List Cond} {rm : Room} {Pc : Array Value → State → Prop} {Qc : Array Value → State → Outcome → State → Prop} {XC : String → State → State → Prop} {mc ms : Nat} {free : Addr → Prop} {bytes : ByteArray} {maxL : Nat} {ret : Option FieldType}
    (hM : vx_Met l y ws rm Pc Qc XC mc ms free) (hblind : FrameBlind Pc) (hrc : rm.cells = mc) (hrs : rm.slots = ms)
    (hframes : rm.frames + 1 ≤ R.frames) (hlocals : W9 + (maxL + 11) + rm.locals ≤ R.locals)
    (hws : ∀ w ∈ ws, ∀ a' U, s.WarmedH U.vm → w.before a' U = true) (hcode : Cond.code y bytes maxL ret ∈ ws) (hinit : ∀ a' U, s.WarmedH U.vm → (Cond.initialized y.cls).before a' U = true) :
    vx_Back l R p e below s sargs y len W9 (PreOf R mc ms Pc) (PostOf Qc mc ms free) (vx_Post XC mc ms free) := by
  intro m meth c A g ig mk a X hg hsize hdg hW hn hp
  have h1 : (headSpec ws rm).pre.before a A.U = true := atoms_intro fun w hw => hws w hw _ _ X.warmed
  have h2 : (Cond.code y bytes maxL ret).before a A.U = true := hws _ hcode _ _ X.warmed
  have h3 : (Cond.initialized y.cls).before a A.U = true := hinit _ _ X.warmed
  have h4 : A.cells + (headSpec ws rm).room.cells ≤ R.cells := by rw [show (headSpec ws rm).room.cells = mc from hrc]; exact hp.1
  have h5 : A.slots + (headSpec ws rm).room.slots ≤ R.slots := by rw [show (headSpec ws rm).room.slots = ms from hrs]; exact hp.2.1
  have hPc : Pc a (A.U.calling g mk a) := hblind _ _ _ _ hp.2.2
  obtain ⟨U, Ls, c0, s0⟩ := A
  dsimp only [Pt.U, Pt.locs, Pt.cells, Pt.slots] at h1 h2 h3 h4 h5 X hn hPc ⊢
  obtain ⟨methY, cY, hmY, hcY, -, hlY, -, -, -, -⟩ := Cond.code_spec hn h2
  obtain ⟨kY, hkY, -⟩ := className_of_methodNamed hn
  have hinitY : kY.init = .initialized := Cond.initialized_spec (findClass_of_methodNamed hn) hkY h3
  have h : At U g.method c below := by rw [hg]; exact X.here
  have hlocals9 : W9 + (maxL + 11) + (headSpec ws rm).room.locals ≤ R.locals := hlocals
  have happ : (headSpec ws rm).appliesLoose y e.platform (U.calling g mk a) = true :=
    Spec.appliesLoose_calling (g := g) h hdg hn hkY hinitY
      (X.room_calling (g := g) (R' := (headSpec ws rm).room) hsize hmY hcY hframes (by rw [hlY]; omega) h4 h5) h1
  obtain ⟨mid, hmid⟩ := h.above
  have hfr : (U.setTop g).frames = (.java g :: mid) ++ below := by rw [State.frames_setTop' g h.top, hmid]; rfl
  obtain ⟨o, s₂, hsteps, -, hend, hq⟩ := Steps.callFree hM p X.admits X.cas X.clock (acts := []) hfr happ hPc trivial
  have hq' : vx_Q Qc XC mc ms free a (U.calling g mk a) o s₂ := hq
  rw [State.frames_setTop' g h.top] at hend
  obtain ⟨g₀, hg0⟩ := Option.isSome_iff_exists.mp h.top
  obtain ⟨r, hr⟩ := State.topJava?_eq_some.mp hg0
  have hr' : (({ U with heap := s₂.heap, slotsUsed := s₂.slotsUsed } : State).setVm s₂.vm).frames = .java g₀ :: r := hr
  rcases hq' with ⟨hqc, L, hfe, hL⟩ | ⟨q, rfl, E, ce, L, hx, hce, hcv, hcl, hW₂, hsm, hL⟩
  · obtain ⟨⟨v, rfl⟩, hW₂, e2, q2, q3, q4, q5, q6⟩ := id hfe
    have e3 : s₂ = ({ (U.calling g mk a).setFrames s₂.frames with heap := s₂.heap, slotsUsed := s₂.slotsUsed } : State).setVm s₂.vm := by
      have : s₂ = ({ s₂ with vm := (U.calling g mk a).vm } : State).setVm s₂.vm := rfl
      rw [e2] at this
      exact this
    obtain ⟨c₂, i₂, len₂, hc₂, hd₂, hf₂⟩ := hend
    have hW' : U.WarmedH s₂.vm := hW₂
    have hcc : c₂ = c := by
      have h1 : s₂.code? g.method = U.code? g.method := by
        rw [State.code?_eq, State.code?_eq, hW'.alike.method?]
      exact Option.some.inj (hc₂.symm.trans (h1.trans h.code))
    subst hcc
    have hlen : len₂ = len := by rw [hdg] at hd₂; cases hd₂; rfl
    subst hlen
    have hs₂ : s₂ = (({ U with heap := s₂.heap, slotsUsed := s₂.slotsUsed } : State).setVm s₂.vm).setTop { g with pc := g.pc + len₂, stack := v.toList ++ g.stack } := by
      refine e3.trans ?_
      rw [hf₂, State.calling_eq h.top, State.setFrames_setFrames, State.setTop_of_frames _ hr', hr]
      rfl
    have hsame : U.sameButNew ({ U with heap := s₂.heap, slotsUsed := s₂.slotsUsed } : State) L mc ms := by
      refine ⟨?_, q2, q3, q4, q5, q6⟩
      obtain ⟨t, ht, -⟩ := State.frames_cons hr
      show ({ U with heap := s₂.heap, slotsUsed := s₂.slotsUsed } : State) = { U.setFrames U.frames with heap := s₂.heap, slotsUsed := s₂.slotsUsed }
      rw [State.setFrames_self ht]
    subst hg
    refine Or.inl ⟨v, ⟨(({ U with heap := s₂.heap, slotsUsed := s₂.slotsUsed } : State).setVm s₂.vm), Ls ++ L, c0 + mc, s0 + ms⟩,
      ⟨X.admits, X.cas, X.clock, X.frames, X.room, X.hears, X.method, X.code, (X.here.setHeapUsed s₂.heap s₂.slotsUsed).setVm hW'.alike, X.tail, State.WarmedH.trans X.warmed hW', X.limits, X.bytes, X.same.trans (hsame.setVm s.vm)⟩,
      ⟨g, mk, s₂, L, rfl, rfl, hqc, rfl, hL, rfl, rfl⟩, ?_⟩
    show Steps p.tables e below _ ((({ U with heap := s₂.heap, slotsUsed := s₂.slotsUsed } : State).setVm s₂.vm).setTop { g with pc := g.pc + len₂, stack := v.toList ++ g.stack })
    rw [← hs₂]
    exact hsteps
  · obtain ⟨e2, q2, q3, q4, q5, q6⟩ := id hsm
    have e3 : s₂ = ({ (U.calling g mk a).setFrames s₂.frames with heap := s₂.heap, slotsUsed := s₂.slotsUsed } : State).setVm s₂.vm := by
      have : s₂ = ({ s₂ with vm := (U.calling g mk a).vm } : State).setVm s₂.vm := rfl
      rw [e2] at this
      exact this
    have hf₂ : s₂.frames = .throwing q :: .java g :: U.frames.tail := hend
    have hW' : U.WarmedH s₂.vm := hW₂
    have hs₂ : s₂ = ((({ U with heap := s₂.heap, slotsUsed := s₂.slotsUsed } : State).setVm s₂.vm).setTop g).pushFrame (.throwing q) := by
      refine e3.trans ?_
      rw [hf₂, State.calling_eq h.top, State.setFrames_setFrames, State.pushFrame, State.frames_setTop _ hr', State.setTop_of_frames _ hr', State.setFrames_setFrames, hr]
      rfl
    have hsame : U.sameButNew ({ U with heap := s₂.heap, slotsUsed := s₂.slotsUsed } : State) L mc ms := by
      refine ⟨?_, q2, q3, q4, q5, q6⟩
      obtain ⟨t, ht, -⟩ := State.frames_cons hr
      show ({ U with heap := s₂.heap, slotsUsed := s₂.slotsUsed } : State) = { U.setFrames U.frames with heap := s₂.heap, slotsUsed := s₂.slotsUsed }
      rw [State.setFrames_self ht]
    subst hg
    refine Or.inr ⟨q, ⟨(({ U with heap := s₂.heap, slotsUsed := s₂.slotsUsed } : State).setVm s₂.vm), Ls ++ L, c0 + mc, s0 + ms⟩,
      ⟨X.admits, X.cas, X.clock, X.frames, X.room, X.hears, X.method, X.code, (X.here.setHeapUsed s₂.heap s₂.slotsUsed).setVm hW'.alike, X.tail, State.WarmedH.trans X.warmed hW', X.limits, X.bytes, X.same.trans (hsame.setVm s.vm)⟩,
      ⟨g, mk, s₂, L, E, ce, rfl, rfl, hx, hce, hcv, hcl, rfl, hL, rfl, rfl⟩, ?_⟩
    show Steps p.tables e below _ (((({ U with heap := s₂.heap, slotsUsed := s₂.slotsUsed } : State).setVm s₂.vm).setTop g).pushFrame (.throwing q))
    rw [← hs₂]
    exact hsteps
end Payer
section Calls
variable {p : Program} {l : Launch} {e : Env} {R : Room} {s : State} {m : MethodId} {args : Array Value} {below : List Frame} {meth : Method} {c : Code} {T : State} {locs : List Loc} {cells slots : Nat}
theorem vx_callV (X : Stand p l e R s m args below meth c T locs cells slots) (hexec : p.tables.exec = Jvm.exec) {own C : String} {index : Nat} {y : MethodName} {bytes : ByteArray} {maxL : Nat} {ret : Option FieldType}
    (hown : s.vm.findClass own = some m.cls) (hlink : (Cond.methodLink own index y).before args s = true) (hinst : (Cond.instanceMethod y).before args s = true) (hsel : (Cond.selects C y y).before args s = true)
    (hcode : (Cond.code y bytes maxL ret).before args s = true) (hy : y.cls ≠ "java/lang/invoke/MethodHandle" ∧ y.cls ≠ "java/lang/invoke/VarHandle")
    {W9 : Nat} {Pre : Pt → Array Value → Prop} {Post : Pt → Array Value → Option Value → Pt → Prop} {PostX : Pt → Array Value → Addr → Pt → Prop} (hK : vx_Back l R p e below s args y 3 W9 Pre Post PostX)
    {b : Addr} {cellB : Cell} (hcell : T.heap[b]? = some cellB) (hobj : cellB.vm.isStatics = false) (hcls : s.vm.findClass C = some cellB.cls)
    {g : JFrame} (hg : g.method = m) (hsize : g.locals.size = c.maxLocals) {argsL rest : List Value} (hlen : ∀ sig, parseMethodDescriptor y.desc = some sig → argsL.length = sig.parameters.length)
    (hstack : g.stack = argsL.reverse ++ .ref b :: rest) (hW : 2 * g.monitorRoom + (rest.map fun v => v.category).sum ≤ W9) (hdg : decode c.code g.pc = .ok (.invokevirtual index, 3))
    (hpre : ∀ vm₁, s.WarmedH vm₁ → Pre ⟨T.setVm vm₁, locs, cells, slots⟩ (Value.ref b :: argsL).toArray) :
    (∃ (v : Option Value) (vm₁ : Vm) (B : Pt), s.WarmedH vm₁ ∧ Stand p l e R s m args below meth c B.U B.locs B.cells B.slots ∧ Post ⟨T.setVm vm₁, locs, cells, slots⟩ (Value.ref b :: argsL).toArray v B ∧
      ∀ target, Steps p.tables e below (B.U.setTop { g with pc := g.pc + 3, stack := v.toList ++ rest }) target → Steps p.tables e below (T.setTop g) target) ∨
    (∃ (q : Addr) (vm₁ : Vm) (B : Pt), s.WarmedH vm₁ ∧ Stand p l e R s m args below meth c B.U B.locs B.cells B.slots ∧ PostX ⟨T.setVm vm₁, locs, cells, slots⟩ (Value.ref b :: argsL).toArray q B ∧
      Steps p.tables e below (T.setTop g) ((B.U.setTop { g with stack := rest }).pushFrame (.throwing q))) := by
  obtain ⟨mk, methM, hnamed, hmethM, hstM, habM⟩ := Cond.instanceMethod_spec hinst
  obtain ⟨methM', cM, hmethM', -, -, -, -, -, -, hsigM⟩ := Cond.code_spec hnamed hcode
  cases hmethM.symm.trans hmethM'
  obtain ⟨c2, r2, m2, q1, q2, q3, q4, kP, hkP, hkPi⟩ := Cond.selects_spec hsel
  cases hcls.symm.trans q1
  cases (State.methodFound?_of_named hnamed hy).symm.trans q2
  cases hnamed.symm.trans q3
  have hselP : selectMethod e.platform s.vm cellB.cls mk = .method mk := by rw [Launch.admits_selectMethod X.admits]; exact q4
  obtain ⟨vm₁, X₁, hstep₁⟩ := X.invokevirtual hexec hown hlink hnamed hmethM hstM hkP hkPi hy (a := b) (cell := cellB) hcell
    (fun z h => by rw [h] at hobj; cases hobj) hselP hmethM habM hkP hkPi (g := g) hg (argsL := argsL) (rest := rest) (hlen _ hsigM) hstack hdg
  rcases hK m meth c ⟨T.setVm vm₁, locs, cells, slots⟩ { g with stack := rest } (.invokevirtual index) mk (Value.ref b :: argsL).toArray X₁ hg hsize hdg hW (X₁.named hnamed) (hpre vm₁ X₁.warmed) with ⟨v, B, X', hpost, hsteps⟩ | ⟨q, B, X', hpost, hsteps⟩
  · exact Or.inl ⟨v, vm₁, B, X₁.warmed, X', hpost, fun target h => hstep₁ _ fun acts => by rw [doInvoke_state]; exact hsteps.trans h⟩
  · exact Or.inr ⟨q, vm₁, B, X₁.warmed, X', hpost, hstep₁ _ fun acts => by rw [doInvoke_state]; exact hsteps⟩
theorem vx_callS (X : Stand p l e R s m args below meth c T locs cells slots) (hexec : p.tables.exec = Jvm.exec) {own : String} {index : Nat} {y : MethodName} {bytes : ByteArray} {maxL : Nat} {ret : Option FieldType}
    (hown : s.vm.findClass own = some m.cls) (hlink : (Cond.methodLink own index y).before args s = true) (hstat : (Cond.static y).before args s = true) (hinit : (Cond.initialized y.cls).before args s = true)
    (hcode : (Cond.code y bytes maxL ret).before args s = true) (hy : y.cls ≠ "java/lang/invoke/MethodHandle" ∧ y.cls ≠ "java/lang/invoke/VarHandle")
    {W9 : Nat} {Pre : Pt → Array Value → Prop} {Post : Pt → Array Value → Option Value → Pt → Prop} {PostX : Pt → Array Value → Addr → Pt → Prop} (hK : vx_Back l R p e below s args y 3 W9 Pre Post PostX)
    {g : JFrame} (hg : g.method = m) (hsize : g.locals.size = c.maxLocals) {argsL rest : List Value} (hlen : ∀ sig, parseMethodDescriptor y.desc = some sig → argsL.length = sig.parameters.length)
    (hstack : g.stack = argsL.reverse ++ rest) (hW : 2 * g.monitorRoom + (rest.map fun v => v.category).sum ≤ W9) (hdg : decode c.code g.pc = .ok (.invokestatic index, 3))
    (hpre : ∀ vm₁, s.WarmedH vm₁ → Pre ⟨T.setVm vm₁, locs, cells, slots⟩ argsL.toArray) :
    (∃ (v : Option Value) (vm₁ : Vm) (B : Pt), s.WarmedH vm₁ ∧ Stand p l e R s m args below meth c B.U B.locs B.cells B.slots ∧ Post ⟨T.setVm vm₁, locs, cells, slots⟩ argsL.toArray v B ∧
      ∀ target, Steps p.tables e below (B.U.setTop { g with pc := g.pc + 3, stack := v.toList ++ rest }) target → Steps p.tables e below (T.setTop g) target) ∨
    (∃ (q : Addr) (vm₁ : Vm) (B : Pt), s.WarmedH vm₁ ∧ Stand p l e R s m args below meth c B.U B.locs B.cells B.slots ∧ PostX ⟨T.setVm vm₁, locs, cells, slots⟩ argsL.toArray q B ∧
      Steps p.tables e below (T.setTop g) ((B.U.setTop { g with stack := rest }).pushFrame (.throwing q))) := by
  obtain ⟨mk, hnamed⟩ := Cond.code_named hcode
  obtain ⟨methM, cM, hmethM, -, -, -, -, -, -, hsigM⟩ := Cond.code_spec hnamed hcode
  have hstatic : methM.isStatic = true := Cond.static_spec hnamed hmethM hstat
  obtain ⟨kP, hkP, -⟩ := className_of_methodNamed hnamed
  have hinitP : kP.init = .initialized := Cond.initialized_spec (findClass_of_methodNamed hnamed) hkP hinit
  obtain ⟨vm₁, X₁, hstep₁⟩ := X.invokestatic hexec hown hlink hnamed hmethM hstatic hkP hinitP hy (g := g) hg (argsL := argsL) (rest := rest) (hlen _ hsigM) hstack hdg
  rcases hK m meth c ⟨T.setVm vm₁, locs, cells, slots⟩ { g with stack := rest } (.invokestatic index) mk argsL.toArray X₁ hg hsize hdg hW (X₁.named hnamed) (hpre vm₁ X₁.warmed) with ⟨v, B, X', hpost, hsteps⟩ | ⟨q, B, X', hpost, hsteps⟩
  · exact Or.inl ⟨v, vm₁, B, X₁.warmed, X', hpost, fun target h => hstep₁ _ fun acts => by rw [doInvoke_state]; exact hsteps.trans h⟩
  · exact Or.inr ⟨q, vm₁, B, X₁.warmed, X', hpost, hstep₁ _ fun acts => by rw [doInvoke_state]; exact hsteps⟩
end Calls
theorem vx_cls {s : State} {T : State} {vm₁ : Vm} {E : String} {k : ClassId} (hW : s.WarmedH vm₁) (h : (T.setVm vm₁).vm.findClass E = some k) : s.vm.findClass E = some k := by
  have h1 : vm₁.findClass E = some k := h
  rw [hW.alike.findClass] at h1
  exact h1
/-- the method's frame g, with q thrown over it -/
def vx_W (p : Program) (l : Launch) (e : Env) (R : Room) (s : State) (m : MethodId) (args : Array Value) (below : List Frame) (meth : Method) (c : Code) (H : Heap) (locs : List Loc) (cells slots : Nat) (Q : State → Prop) (g : JFrame) (q : Addr) : Prop :=
  ∀ T : State, T.heap = H → Stand p l e R s m args below meth c T locs cells slots → ∃ t, Steps p.tables e below ((T.setTop g).pushFrame (.throwing q)) t ∧ Q t
def vx_Run (p : Program) (l : Launch) (e : Env) (R : Room) (s : State) (m : MethodId) (args : Array Value) (below : List Frame) (meth : Method) (c : Code) (H : Heap) (locs : List Loc) (cells slots mc ms : Nat) (g : JFrame) (rest : List Value) (Qa : State → Outcome → State → Prop) (XC : String → State → State → Prop) (free : Addr → Prop) : Prop :=
  ∀ T : State, T.heap = H → Stand p l e R s m args below meth c T locs cells slots →
    (∃ (v : Option Value) (st₀ t T' : State) (L : List Loc), st₀.heap = H ∧ Stand p l e R s m args below meth c T' (locs ++ L) (cells + mc) (slots + ms) ∧ (∀ q ∈ L, free q.base) ∧ T'.heap = t.heap ∧ T'.vm = t.vm ∧ Qa st₀ (.returned v) t ∧
      Goes p e below T g T' { g with pc := g.pc + 3, stack := v.toList ++ rest }) ∨
    (∃ (q : Addr) (st₀ t T' : State) (L : List Loc) (E : String) (ce : Cell), st₀.heap = H ∧ Stand p l e R s m args below meth c T' (locs ++ L) (cells + mc) (slots + ms) ∧ (∀ z ∈ L, free z.base) ∧ T'.heap = t.heap ∧ T'.vm = t.vm ∧ XC E st₀ t ∧ t.heap[q]? = some ce ∧ ce.vm = .none ∧ s.vm.findClass E = some ce.cls ∧
      Steps p.tables e below (T.setTop g) ((T'.setTop { g with stack := rest }).pushFrame (.throwing q)))
def vx_X {S : Type} (px : S → Prop) (B : String → S → State → Prop) (A : Nat → Prop) : String → State → State → Prop := fun E st t => ∃ u : S, px u ∧ B E u t ∧ va_F A st t
section Runs
variable {p : Program} {l : Launch} {e : Env} {R : Room} {s : State} {m : MethodId} {args : Array Value} {below : List Frame} {meth : Method} {c : Code} {H : Heap} {locs : List Loc} {cells slots : Nat}
variable {y : MethodName} {bytes cc : ByteArray} {maxL nL mc ms n index : Nat} {ret : Option FieldType} {ws : List Cond} {rm : Room} {Pc : Array Value → State → Prop} {Qc : Array Value → State → Outcome → State → Prop} {XC : String → State → State → Prop} {free : Addr → Prop} {Ts : List Cond} {own C : String} {b : Addr} {As rest : List Value} {g : JFrame}
theorem vx_callBack (cb : CallB R s args own index y bytes maxL ret ws rm mc ms n) (hM : vx_Met l y ws rm Pc Qc XC mc ms free) (hbl : FrameBlind Pc) : vx_Back l R p e below s args y 3 8 (PreOf R mc ms Pc) (PostOf Qc mc ms free) (vx_Post XC mc ms free) := by
  obtain ⟨hrc, hrs, hfr, hlo, hws, hcw, -, hini, -⟩ := cb
  exact vx_back (bytes := bytes) (maxL := maxL) (ret := ret) hM hbl hrc hrs hfr hlo hws hcw (fun a' U hW => word_at hW (Or.inl (by first | rfl | simp [Cond.onTables, Cond.keeps, Cond.steady])) hini)
theorem vx_runV (S : CallFix p m c cc nL s args Ts own) (hM : vx_Met l y ws rm Pc Qc XC mc ms free) (cw : CallW R s args own C index y bytes maxL ret ws rm mc ms n) (hp : PreV s H C b Pc As)
    (hg : g.method = m) (hn : As.length = n) (hsize : g.locals.size = nL) (hstack : g.stack = As.reverse ++ .ref b :: rest) (hW : 2 * g.monitorRoom + (rest.map fun v => v.category).sum ≤ 8) (hdg : decode cc g.pc = .ok (.invokevirtual index, 3)) (hf : cells + mc ≤ R.cells ∧ slots + ms ≤ R.slots) :
    vx_Run p l e R s m args below meth c H locs cells slots mc ms g rest (Qc (Value.ref b :: As).toArray) XC free := by
  have hK : vx_Back l R p e below s args y 3 8 (PreOf R mc ms Pc) (PostOf Qc mc ms free) (vx_Post XC mc ms free) := vx_callBack cw.1 hM hp.1
  obtain ⟨⟨-, -, -, -, -, -, hcode, -, hy, hlen, hl⟩, hin, hse⟩ := cw
  obtain ⟨hx, hb, hml, ho, -⟩ := S
  obtain ⟨-, ⟨cellB, hcB, hoB, hclB⟩, hPc⟩ := hp
  intro T hT X
  rcases vx_callV X hx (C := C) (bytes := bytes) (maxL := maxL) (ret := ret) ho hl hin hse hcode hy hK (by rw [hT]; exact hcB) hoB hclB hg (hsize.trans hml.symm) (argsL := As) (rest := rest) (fun sig h => hn.trans (hlen sig h)) hstack hW (by rw [hb]; exact hdg)
    (fun vm₁ hW₁ => ⟨hf.1, hf.2, hPc (T.setVm vm₁) hT hW₁⟩) with ⟨v, vm₁, ⟨U', l2, c2, s2⟩, hW₁, X', ⟨g', mk, t, L, e1, e2, hq, h1, hL, h2, h3⟩, st⟩ | ⟨q, vm₁, ⟨U', l2, c2, s2⟩, hW₁, X', ⟨g', mk, t, L, E, ce, e1, e2, hq, hce, hcv, hcl, h1, hL, h2, h3⟩, st⟩
  · dsimp only [Pt.U, Pt.locs, Pt.cells, Pt.slots] at X' e1 e2 h1 h2 h3 st
    subst h1; subst h2; subst h3
    exact Or.inl ⟨v, (T.setVm vm₁).calling g' mk (Value.ref b :: As).toArray, t, U', L, hT, X', hL, e1, e2, hq, st⟩
  · dsimp only [Pt.U, Pt.locs, Pt.cells, Pt.slots] at X' e1 e2 h1 h2 h3 st hcl
    subst h1; subst h2; subst h3
    exact Or.inr ⟨q, (T.setVm vm₁).calling g' mk (Value.ref b :: As).toArray, t, U', L, E, ce, hT, X', hL, e1, e2, hq, hce, hcv, vx_cls hW₁ hcl, st⟩
theorem vx_runS (S : CallFix p m c cc nL s args Ts own) (hM : vx_Met l y ws rm Pc Qc XC mc ms free) (cw : CallB R s args own index y bytes maxL ret ws rm mc ms n ∧ (Cond.static y).before args s = true) (hp : PreS s H Pc As)
    (hg : g.method = m) (hn : As.length = n) (hsize : g.locals.size = nL) (hstack : g.stack = As.reverse ++ rest) (hW : 2 * g.monitorRoom + (rest.map fun v => v.category).sum ≤ 8) (hdg : decode cc g.pc = .ok (.invokestatic index, 3)) (hf : cells + mc ≤ R.cells ∧ slots + ms ≤ R.slots) :
    vx_Run p l e R s m args below meth c H locs cells slots mc ms g rest (Qc As.toArray) XC free := by
  have hK : vx_Back l R p e below s args y 3 8 (PreOf R mc ms Pc) (PostOf Qc mc ms free) (vx_Post XC mc ms free) := vx_callBack cw.1 hM hp.1
  obtain ⟨⟨-, -, -, -, -, -, hcode, hini, hy, hlen, hl⟩, hstt⟩ := cw
  obtain ⟨hx, hb, hml, ho, -⟩ := S
  intro T hT X
  rcases vx_callS X hx (bytes := bytes) (maxL := maxL) (ret := ret) ho hl hstt hini hcode hy hK hg (hsize.trans hml.symm) (argsL := As) (rest := rest) (fun sig h => hn.trans (hlen sig h)) hstack hW (by rw [hb]; exact hdg)
    (fun vm₁ hW₁ => ⟨hf.1, hf.2, hp.2 (T.setVm vm₁) hT hW₁⟩) with ⟨v, vm₁, ⟨U', l2, c2, s2⟩, hW₁, X', ⟨g', mk, t, L, e1, e2, hq, h1, hL, h2, h3⟩, st⟩ | ⟨q, vm₁, ⟨U', l2, c2, s2⟩, hW₁, X', ⟨g', mk, t, L, E, ce, e1, e2, hq, hce, hcv, hcl, h1, hL, h2, h3⟩, st⟩
  · dsimp only [Pt.U, Pt.locs, Pt.cells, Pt.slots] at X' e1 e2 h1 h2 h3 st
    subst h1; subst h2; subst h3
    exact Or.inl ⟨v, (T.setVm vm₁).calling g' mk As.toArray, t, U', L, hT, X', hL, e1, e2, hq, st⟩
  · dsimp only [Pt.U, Pt.locs, Pt.cells, Pt.slots] at X' e1 e2 h1 h2 h3 st hcl
    subst h1; subst h2; subst h3
    exact Or.inr ⟨q, (T.setVm vm₁).calling g' mk As.toArray, t, U', L, E, ce, hT, X', hL, e1, e2, hq, hce, hcv, vx_cls hW₁ hcl, st⟩
end Runs
section Rows
variable {p : Program} {l : Launch} {e : Env} {R : Room} {s : State} {m : MethodId} {args : Array Value} {below : List Frame} {meth : Method} {c : Code} {H : Heap} {locs : List Loc} {cells slots : Nat} {Q : State → Prop}
variable {mc ms : Nat} {free : Addr → Prop} {A0 A1 : Nat → Prop} {H0 : Heap} {a : Array Value} {pc : Nat} {ls : Array Slot} {st0 rest : List Value}
theorem vx_keep {st₀ t T' : State} {L : List Loc} (h0 : st₀.heap = H) (e1 : T'.heap = t.heap) (hS : va_S A0 H0 H locs) (hA : ∀ q, q < H.size → A1 q → A0 q) (hf : ∀ q, free q → A0 q) (hL : ∀ q ∈ L, free q.base) (hF : va_F A1 st₀ t) :
    H.size ≤ T'.heap.size ∧ (∀ q : Nat, q < H.size → ¬ A1 q → T'.heap[q]? = H[q]?) ∧ va_S A0 H0 T'.heap (locs ++ L) := by
  obtain ⟨hz, hk⟩ := hF
  rw [h0] at hz hk
  exact ⟨by rw [e1]; exact hz, fun q h1 h2 => by rw [e1]; exact hk q h1 h2,
    ⟨Nat.le_trans hS.1 (by rw [e1]; exact hz), fun q h1 h2 => by rw [e1, hk q (Nat.lt_of_lt_of_le h1 hS.1) (fun z => h2 (hA q (Nat.lt_of_lt_of_le h1 hS.1) z))]; exact hS.2.1 q h1 h2, fun q hq => by
      rcases List.mem_append.mp hq with h | h
      · exact hS.2.2 q h
      · exact hf _ (hL q h)⟩⟩
theorem vx_calli {S SX : Type} {post : Int32 → S → Prop} {px : SX → Prop} {B : S → State → Prop} {BX : String → SX → State → Prop} {AX : Nat → Prop} (hr : vx_Run p l e R s m args below meth c H locs cells slots mc ms (F0 m pc ls st0) rest (va_Qi post B A1 a) (vx_X px BX AX) free) (hS : va_S A0 H0 H locs) (hA : ∀ q, q < H.size → A1 q → A0 q) (hf : ∀ q, free q → A0 q) (hAX : ∀ q, q < H.size → AX q → A0 q)
    (kx : ∀ (E : String) (ce : Cell) (q9 : Addr) (u : SX) (t : State) (H1 : Heap) (locs1 : List Loc), t.heap = H1 → s.vm.Alike t.vm → px u → BX E u t → H.size ≤ H1.size → (∀ q : Nat, q < H.size → ¬ AX q → H1[q]? = H[q]?) → va_S A0 H0 H1 locs1 → H1[q9]? = some ce → ce.vm = .none → s.vm.findClass E = some ce.cls → vx_W p l e R s m args below meth c H1 locs1 (cells + mc) (slots + ms) Q (F0 m pc ls rest) q9)
    (kk : ∀ (r : Int32) (u : S) (t : State) (H1 : Heap) (locs1 : List Loc), t.heap = H1 → s.vm.Alike t.vm → post r u → B u t → H.size ≤ H1.size → (∀ q : Nat, q < H.size → ¬ A1 q → H1[q]? = H[q]?) → va_S A0 H0 H1 locs1 → W p l e R s m args below meth c H1 locs1 (cells + mc) (slots + ms) Q (F0 m (pc + 3) ls (.int r :: rest))) : W p l e R s m args below meth c H locs cells slots Q (F0 m pc ls st0) := by
  intro T hT X
  rcases hr T hT X with ⟨v, st₀, t, T', L, h0, X', hL, e1, e2, ⟨⟨r, u, hv, hp, hb⟩, hF⟩, st⟩ | ⟨q, st₀, t, T', L, E, ce, h0, X', hL, e1, e2, ⟨u, hp, hb, hF⟩, hce, hcv, hcl, st⟩
  · cases hv
    obtain ⟨k1, k2, k3⟩ := vx_keep h0 e1 hS hA hf hL hF
    obtain ⟨t2, a1, b1⟩ := kk r u t T'.heap (locs ++ L) e1.symm (by rw [← e2]; exact X'.warmed.alike) hp hb k1 k2 k3 T' rfl X'
    exact ⟨t2, st t2 a1, b1⟩
  · obtain ⟨k1, k2, k3⟩ := vx_keep h0 e1 hS hAX hf hL hF
    obtain ⟨t2, a1, b1⟩ := kx E ce q u t T'.heap (locs ++ L) e1.symm (by rw [← e2]; exact X'.warmed.alike) hp hb k1 k2 k3 (by rw [e1]; exact hce) hcv hcl T' rfl X'
    exact ⟨t2, st.trans a1, b1⟩
theorem vx_calll {S SX : Type} {post : Int64 → S → Prop} {px : SX → Prop} {B : S → State → Prop} {BX : String → SX → State → Prop} {AX : Nat → Prop} (hr : vx_Run p l e R s m args below meth c H locs cells slots mc ms (F0 m pc ls st0) rest (va_Ql post B A1 a) (vx_X px BX AX) free) (hS : va_S A0 H0 H locs) (hA : ∀ q, q < H.size → A1 q → A0 q) (hf : ∀ q, free q → A0 q) (hAX : ∀ q, q < H.size → AX q → A0 q)
    (kx : ∀ (E : String) (ce : Cell) (q9 : Addr) (u : SX) (t : State) (H1 : Heap) (locs1 : List Loc), t.heap = H1 → s.vm.Alike t.vm → px u → BX E u t → H.size ≤ H1.size → (∀ q : Nat, q < H.size → ¬ AX q → H1[q]? = H[q]?) → va_S A0 H0 H1 locs1 → H1[q9]? = some ce → ce.vm = .none → s.vm.findClass E = some ce.cls → vx_W p l e R s m args below meth c H1 locs1 (cells + mc) (slots + ms) Q (F0 m pc ls rest) q9)
    (kk : ∀ (r : Int64) (u : S) (t : State) (H1 : Heap) (locs1 : List Loc), t.heap = H1 → s.vm.Alike t.vm → post r u → B u t → H.size ≤ H1.size → (∀ q : Nat, q < H.size → ¬ A1 q → H1[q]? = H[q]?) → va_S A0 H0 H1 locs1 → W p l e R s m args below meth c H1 locs1 (cells + mc) (slots + ms) Q (F0 m (pc + 3) ls (.long r :: rest))) : W p l e R s m args below meth c H locs cells slots Q (F0 m pc ls st0) := by
  intro T hT X
  rcases hr T hT X with ⟨v, st₀, t, T', L, h0, X', hL, e1, e2, ⟨⟨r, u, hv, hp, hb⟩, hF⟩, st⟩ | ⟨q, st₀, t, T', L, E, ce, h0, X', hL, e1, e2, ⟨u, hp, hb, hF⟩, hce, hcv, hcl, st⟩
  · cases hv
    obtain ⟨k1, k2, k3⟩ := vx_keep h0 e1 hS hA hf hL hF
    obtain ⟨t2, a1, b1⟩ := kk r u t T'.heap (locs ++ L) e1.symm (by rw [← e2]; exact X'.warmed.alike) hp hb k1 k2 k3 T' rfl X'
    exact ⟨t2, st t2 a1, b1⟩
  · obtain ⟨k1, k2, k3⟩ := vx_keep h0 e1 hS hAX hf hL hF
    obtain ⟨t2, a1, b1⟩ := kx E ce q u t T'.heap (locs ++ L) e1.symm (by rw [← e2]; exact X'.warmed.alike) hp hb k1 k2 k3 (by rw [e1]; exact hce) hcv hcl T' rfl X'
    exact ⟨t2, st.trans a1, b1⟩
theorem vx_callf {S SX : Type} {post : UInt32 → S → Prop} {px : SX → Prop} {B : S → State → Prop} {BX : String → SX → State → Prop} {AX : Nat → Prop} (hr : vx_Run p l e R s m args below meth c H locs cells slots mc ms (F0 m pc ls st0) rest (va_Qf post B A1 a) (vx_X px BX AX) free) (hS : va_S A0 H0 H locs) (hA : ∀ q, q < H.size → A1 q → A0 q) (hf : ∀ q, free q → A0 q) (hAX : ∀ q, q < H.size → AX q → A0 q)
    (kx : ∀ (E : String) (ce : Cell) (q9 : Addr) (u : SX) (t : State) (H1 : Heap) (locs1 : List Loc), t.heap = H1 → s.vm.Alike t.vm → px u → BX E u t → H.size ≤ H1.size → (∀ q : Nat, q < H.size → ¬ AX q → H1[q]? = H[q]?) → va_S A0 H0 H1 locs1 → H1[q9]? = some ce → ce.vm = .none → s.vm.findClass E = some ce.cls → vx_W p l e R s m args below meth c H1 locs1 (cells + mc) (slots + ms) Q (F0 m pc ls rest) q9)
    (kk : ∀ (r : UInt32) (u : S) (t : State) (H1 : Heap) (locs1 : List Loc), t.heap = H1 → s.vm.Alike t.vm → post r u → B u t → H.size ≤ H1.size → (∀ q : Nat, q < H.size → ¬ A1 q → H1[q]? = H[q]?) → va_S A0 H0 H1 locs1 → W p l e R s m args below meth c H1 locs1 (cells + mc) (slots + ms) Q (F0 m (pc + 3) ls (.float r :: rest))) : W p l e R s m args below meth c H locs cells slots Q (F0 m pc ls st0) := by
  intro T hT X
  rcases hr T hT X with ⟨v, st₀, t, T', L, h0, X', hL, e1, e2, ⟨⟨r, u, hv, hp, hb⟩, hF⟩, st⟩ | ⟨q, st₀, t, T', L, E, ce, h0, X', hL, e1, e2, ⟨u, hp, hb, hF⟩, hce, hcv, hcl, st⟩
  · cases hv
    obtain ⟨k1, k2, k3⟩ := vx_keep h0 e1 hS hA hf hL hF
    obtain ⟨t2, a1, b1⟩ := kk r u t T'.heap (locs ++ L) e1.symm (by rw [← e2]; exact X'.warmed.alike) hp hb k1 k2 k3 T' rfl X'
    exact ⟨t2, st t2 a1, b1⟩
  · obtain ⟨k1, k2, k3⟩ := vx_keep h0 e1 hS hAX hf hL hF
    obtain ⟨t2, a1, b1⟩ := kx E ce q u t T'.heap (locs ++ L) e1.symm (by rw [← e2]; exact X'.warmed.alike) hp hb k1 k2 k3 (by rw [e1]; exact hce) hcv hcl T' rfl X'
    exact ⟨t2, st.trans a1, b1⟩
theorem vx_calld {S SX : Type} {post : UInt64 → S → Prop} {px : SX → Prop} {B : S → State → Prop} {BX : String → SX → State → Prop} {AX : Nat → Prop} (hr : vx_Run p l e R s m args below meth c H locs cells slots mc ms (F0 m pc ls st0) rest (va_Qd post B A1 a) (vx_X px BX AX) free) (hS : va_S A0 H0 H locs) (hA : ∀ q, q < H.size → A1 q → A0 q) (hf : ∀ q, free q → A0 q) (hAX : ∀ q, q < H.size → AX q → A0 q)
    (kx : ∀ (E : String) (ce : Cell) (q9 : Addr) (u : SX) (t : State) (H1 : Heap) (locs1 : List Loc), t.heap = H1 → s.vm.Alike t.vm → px u → BX E u t → H.size ≤ H1.size → (∀ q : Nat, q < H.size → ¬ AX q → H1[q]? = H[q]?) → va_S A0 H0 H1 locs1 → H1[q9]? = some ce → ce.vm = .none → s.vm.findClass E = some ce.cls → vx_W p l e R s m args below meth c H1 locs1 (cells + mc) (slots + ms) Q (F0 m pc ls rest) q9)
    (kk : ∀ (r : UInt64) (u : S) (t : State) (H1 : Heap) (locs1 : List Loc), t.heap = H1 → s.vm.Alike t.vm → post r u → B u t → H.size ≤ H1.size → (∀ q : Nat, q < H.size → ¬ A1 q → H1[q]? = H[q]?) → va_S A0 H0 H1 locs1 → W p l e R s m args below meth c H1 locs1 (cells + mc) (slots + ms) Q (F0 m (pc + 3) ls (.double r :: rest))) : W p l e R s m args below meth c H locs cells slots Q (F0 m pc ls st0) := by
  intro T hT X
  rcases hr T hT X with ⟨v, st₀, t, T', L, h0, X', hL, e1, e2, ⟨⟨r, u, hv, hp, hb⟩, hF⟩, st⟩ | ⟨q, st₀, t, T', L, E, ce, h0, X', hL, e1, e2, ⟨u, hp, hb, hF⟩, hce, hcv, hcl, st⟩
  · cases hv
    obtain ⟨k1, k2, k3⟩ := vx_keep h0 e1 hS hA hf hL hF
    obtain ⟨t2, a1, b1⟩ := kk r u t T'.heap (locs ++ L) e1.symm (by rw [← e2]; exact X'.warmed.alike) hp hb k1 k2 k3 T' rfl X'
    exact ⟨t2, st t2 a1, b1⟩
  · obtain ⟨k1, k2, k3⟩ := vx_keep h0 e1 hS hAX hf hL hF
    obtain ⟨t2, a1, b1⟩ := kx E ce q u t T'.heap (locs ++ L) e1.symm (by rw [← e2]; exact X'.warmed.alike) hp hb k1 k2 k3 (by rw [e1]; exact hce) hcv hcl T' rfl X'
    exact ⟨t2, st.trans a1, b1⟩
theorem vx_callv {S SX : Type} {post : S → Prop} {px : SX → Prop} {B : S → State → Prop} {BX : String → SX → State → Prop} {AX : Nat → Prop} (hr : vx_Run p l e R s m args below meth c H locs cells slots mc ms (F0 m pc ls st0) rest (va_Qv post B A1 a) (vx_X px BX AX) free) (hS : va_S A0 H0 H locs) (hA : ∀ q, q < H.size → A1 q → A0 q) (hf : ∀ q, free q → A0 q) (hAX : ∀ q, q < H.size → AX q → A0 q)
    (kx : ∀ (E : String) (ce : Cell) (q9 : Addr) (u : SX) (t : State) (H1 : Heap) (locs1 : List Loc), t.heap = H1 → s.vm.Alike t.vm → px u → BX E u t → H.size ≤ H1.size → (∀ q : Nat, q < H.size → ¬ AX q → H1[q]? = H[q]?) → va_S A0 H0 H1 locs1 → H1[q9]? = some ce → ce.vm = .none → s.vm.findClass E = some ce.cls → vx_W p l e R s m args below meth c H1 locs1 (cells + mc) (slots + ms) Q (F0 m pc ls rest) q9)
    (kk : ∀ (u : S) (t : State) (H1 : Heap) (locs1 : List Loc), t.heap = H1 → s.vm.Alike t.vm → post u → B u t → H.size ≤ H1.size → (∀ q : Nat, q < H.size → ¬ A1 q → H1[q]? = H[q]?) → va_S A0 H0 H1 locs1 → W p l e R s m args below meth c H1 locs1 (cells + mc) (slots + ms) Q (F0 m (pc + 3) ls (rest))) : W p l e R s m args below meth c H locs cells slots Q (F0 m pc ls st0) := by
  intro T hT X
  rcases hr T hT X with ⟨v, st₀, t, T', L, h0, X', hL, e1, e2, ⟨⟨u, hv, hp, hb⟩, hF⟩, st⟩ | ⟨q, st₀, t, T', L, E, ce, h0, X', hL, e1, e2, ⟨u, hp, hb, hF⟩, hce, hcv, hcl, st⟩
  · cases hv
    obtain ⟨k1, k2, k3⟩ := vx_keep h0 e1 hS hA hf hL hF
    obtain ⟨t2, a1, b1⟩ := kk u t T'.heap (locs ++ L) e1.symm (by rw [← e2]; exact X'.warmed.alike) hp hb k1 k2 k3 T' rfl X'
    exact ⟨t2, st t2 a1, b1⟩
  · obtain ⟨k1, k2, k3⟩ := vx_keep h0 e1 hS hAX hf hL hF
    obtain ⟨t2, a1, b1⟩ := kx E ce q u t T'.heap (locs ++ L) e1.symm (by rw [← e2]; exact X'.warmed.alike) hp hb k1 k2 k3 (by rw [e1]; exact hce) hcv hcl T' rfl X'
    exact ⟨t2, st.trans a1, b1⟩
end Rows
section Ends
variable {p : Program} {l : Launch} {e : Env} {R : Room} {s : State} {m : MethodId} {args : Array Value} {below : List Frame} {meth : Method} {c : Code} {H : Heap} {locs : List Loc} {cells slots : Nat} {Q : State → Prop}
variable {mc ms : Nat} {free : Addr → Prop} {A0 A1 : Nat → Prop} {H0 : Heap} {a : Array Value} {ls : Array Slot} {st0 rest : List Value}
variable {Qc : Array Value → State → Outcome → State → Prop} {XC : String → State → State → Prop}
/-- what a body that may throw owes at its end -/
def vx_MQ (below : List Frame) (Qc : Array Value → State → Outcome → State → Prop) (XC : String → State → State → Prop) (a : Array Value) (s : State) (mc ms : Nat) (free : Addr → Prop) : State → Prop := fun t =>
  ∃ o, t.status = .running ∧ Ended t below o ∧ vx_Q Qc XC mc ms free a s o t
theorem vx_ret {g : JFrame} {mc ms : Nat} (k : W p l e R s m args below meth c H locs cells slots (MQ below Qc args s mc ms free) g) : W p l e R s m args below meth c H locs cells slots (vx_MQ below Qc XC args s mc ms free) g := by
  intro T hT X
  obtain ⟨t, a1, o, b1, b2, b3, b4⟩ := k T hT X
  exact ⟨t, a1, o, b1, b2, Or.inl ⟨b3, b4⟩⟩
/-- not caught here: it goes on to the caller -/
theorem vx_widen {g : JFrame} {q : Addr} {k n : Nat} (h1 : cells ≤ k) (h2 : slots ≤ n) (kk : vx_W p l e R s m args below meth c H locs k n Q g q) : vx_W p l e R s m args below meth c H locs cells slots Q g q := fun T hT X => kk T hT (stand_widen X h1 h2)
theorem vx_out {pc : Nat} {E : String} {ce : Cell} {q : Addr} {mc ms : Nat} (hout : ∀ x ∈ c.exceptionTable.toList, covers x pc = false) (hlocks : meth.locks = false) (hcell : H[q]? = some ce) (hv : ce.vm = .none) (hcl : s.vm.findClass E = some ce.cls)
    (hx : ∀ t : State, t.heap = H → s.vm.Alike t.vm → XC E s t) (hf : ∀ z ∈ locs, free z.base) (hc : cells ≤ mc) (hs : slots ≤ ms) :
    vx_W p l e R s m args below meth c H locs cells slots (vx_MQ below Qc XC args s mc ms free) (F0 m pc ls rest) q := by
  intro T hT X
  obtain ⟨st1, hrun, hend, hW, hsm⟩ := X.leaveThrown q (g := F0 m pc ls rest) rfl rfl rfl hout hlocks
  have hcell9 : (T.setFrames (.throwing q :: below)).heap[q]? = some ce := by
    show T.heap[q]? = some ce
    rw [hT]; exact hcell
  exact ⟨_, st1, .threw q, hrun, hend, Or.inr ⟨q, rfl, E, ce, locs, hx _ hT hW.alike, hcell9, hv, hcl, hW, hsm.mono hc hs, hf⟩⟩
theorem vx_frame {U : State} {k n : Nat} (h : s.sameButNew ({ U with vm := s.vm } : State) locs k n) : s.heap.size ≤ U.heap.size ∧ ∀ q : Nat, q < s.heap.size → (∀ z ∈ locs, z.base ≠ q) → U.heap[q]? = s.heap[q]? := by
  obtain ⟨-, h2, -, -, -, h6⟩ := h
  refine ⟨h2, fun q hq hz => ?_⟩
  obtain ⟨c9, e1, e2, e3, e4⟩ := h6 q _ (Array.getElem?_eq_getElem hq)
  have hs : c9.slots = (s.heap[q]).slots := Array.ext_getElem? fun i => e4 i fun hm => hz _ hm rfl
  have h9 : c9 = s.heap[q] := by
    rw [hs] at e2
    exact e2
  have e5 : U.heap[q]? = some c9 := e1
  rw [e5, h9, Array.getElem?_eq_getElem hq]
/-- the words of a throw but the four that speak of the heap -/
def vx_no (w : Cond) : Bool := decide (w ≠ .isRef (.static Bundle.tN "UNASSIGNED_STACK" Bundle.steD)) && decide (w ≠ .isRef (.static Bundle.tN "SUPPRESSED_SENTINEL" Bundle.listD)) && decide (w ≠ .laysStatic Bundle.tN "UNASSIGNED_STACK" Bundle.steD) && decide (w ≠ .laysStatic Bundle.tN "SUPPRESSED_SENTINEL" Bundle.listD)
def vx_at0 (own : String) (ic : Nat) (X : String) (names : List String) : List Cond := (Bundle.ownAtoms0 own ic X names).filter vx_no
def vx_atS (own : String) (ic : Nat) (X : String) (names : List String) : List Cond := (Bundle.ownAtoms own ic X names).filter vx_no
/-- a word that the tables alone decide, or a good one -/
def vx_ot (w : Cond) : Bool := w.onTables || goodWord w
theorem vx_ot_at {args a' : Array Value} {s U : State} {w : Cond} (hW : s.WarmedH U.vm) (hvm : s.vm = U.vm) (hg : vx_ot w = true) (h : w.before args s = true) : w.before a' U = true := by
  simp only [vx_ot, Bool.or_eq_true] at hg
  rcases hg with hg | hg
  · exact va_tabs hg hvm h
  · exact word_at hW (good_of_word hg) h
/-- a list's words: the good ones out of the method's own list, the others by premises of their own -/
theorem vx_hat {args : Array Value} {s : State} {L B : List Cond} (h1 : ∀ w ∈ L.filter goodWord, w.before args s = true) (h2 : ∀ w ∈ L.filter (fun w => !goodWord w), w ∈ B) (h3 : ∀ w ∈ B, w.before args s = true) : ∀ w ∈ L, w.before args s = true := by
  intro w hw
  by_cases g : goodWord w = true
  · exact h1 w (List.mem_filter.mpr ⟨hw, g⟩)
  · refine h3 w (h2 w (List.mem_filter.mpr ⟨hw, ?_⟩))
    show (!goodWord w) = true
    cases hgw : goodWord w
    · rfl
    · exact absurd hgw g
theorem vx_c {args : Array Value} {s : State} {w : Cond} {B : List Cond} (h : w.before args s = true) (t : ∀ w ∈ B, w.before args s = true) : ∀ w' ∈ w :: B, w'.before args s = true := fun w' h' => (List.mem_cons.mp h').elim (fun e => by rw [e]; exact h) (t w')
theorem vx_n {args : Array Value} {s : State} : ∀ w ∈ ([] : List Cond), w.before args s = true := fun _ h => nomatch h
theorem vx_own {args : Array Value} {s : State} {L : List Cond} (h1 : ∀ w ∈ L.filter vx_no, w.before args s = true)
    (hU : (Cond.isRef (.static Bundle.tN "UNASSIGNED_STACK" Bundle.steD)).before args s = true) (hN : (Cond.isRef (.static Bundle.tN "SUPPRESSED_SENTINEL" Bundle.listD)).before args s = true)
    (lU : (Cond.laysStatic Bundle.tN "UNASSIGNED_STACK" Bundle.steD).before args s = true) (lN : (Cond.laysStatic Bundle.tN "SUPPRESSED_SENTINEL" Bundle.listD).before args s = true) : ∀ w ∈ L, w.before args s = true := by
  intro w hw
  by_cases e1 : w = .isRef (.static Bundle.tN "UNASSIGNED_STACK" Bundle.steD)
  · rw [e1]; exact hU
  · by_cases e2 : w = .isRef (.static Bundle.tN "SUPPRESSED_SENTINEL" Bundle.listD)
    · rw [e2]; exact hN
    · by_cases e3 : w = .laysStatic Bundle.tN "UNASSIGNED_STACK" Bundle.steD
      · rw [e3]; exact lU
      · by_cases e4 : w = .laysStatic Bundle.tN "SUPPRESSED_SENTINEL" Bundle.listD
        · rw [e4]; exact lN
        · exact h1 w (List.mem_filter.mpr ⟨hw, by unfold vx_no; rw [decide_eq_true e1, decide_eq_true e2, decide_eq_true e3, decide_eq_true e4]; rfl⟩)
/-- where a static field lies, its class's statics cell in H -/
def vx_L (C n d : String) (A : Nat → Prop) (U : State) (H : Heap) : Prop := ∃ (c : ClassId) (k : Class) (i : Nat) (f : Field) (a : Nat) (cell : Cell), U.vm.findClass C = some c ∧ U.fieldFound? C n d = some (c, k, i, f) ∧ f.isStatic = true ∧ k.statics = some a ∧ H[a]? = some cell ∧ cell.vm.isStatics = true ∧ cell.cls = c ∧ f.slot < cell.slots.size ∧ k.staticTypes[f.slot]? = some f.type ∧ ¬ A a
theorem vx_L.moved {C n d : String} {A : Nat → Prop} {u U : State} {H : Heap} (hvm : u.vm.Alike U.vm) (h : vx_L C n d A u H) : vx_L C n d A U H := by
  obtain ⟨c, k, i, f, a, cell, h1, h2, h3, h4, h5, h6, h7, h8, h9, h10⟩ := h
  obtain ⟨k', hi', he⟩ := State.fieldFound?_setVm hvm h2
  exact ⟨c, k', i, f, a, cell, by rw [hvm.findClass]; exact h1, hi', h3, by rw [he]; exact h4, h5, h6, h7, h8, by rw [he]; exact h9, h10⟩
theorem vx_L.kept {C n d : String} {A : Nat → Prop} {U : State} {H H1 : Heap} (h : vx_L C n d A U H) (hq : ∀ a : Nat, a < H.size → ¬ A a → H1[a]? = H[a]?) : vx_L C n d A U H1 := by
  obtain ⟨c, k, i, f, a, cell, h1, h2, h3, h4, h5, h6, h7, h8, h9, h10⟩ := h
  exact ⟨c, k, i, f, a, cell, h1, h2, h3, h4, by rw [hq a (Array.getElem?_eq_some_iff.mp h5).1 h10]; exact h5, h6, h7, h8, h9, h10⟩
theorem vx_L.narrow {C n d : String} {A B : Nat → Prop} {U : State} {H : Heap} (h : vx_L C n d A U H) (hAB : ∀ q, B q → A q) : vx_L C n d B U H := by
  obtain ⟨c, k, i, f, a, cell, h1, h2, h3, h4, h5, h6, h7, h8, h9, h10⟩ := h
  exact ⟨c, k, i, f, a, cell, h1, h2, h3, h4, h5, h6, h7, h8, h9, fun z => h10 (hAB _ z)⟩
theorem vx_L.word {C n d : String} {A : Nat → Prop} {s : State} {args : Array Value} (h : vx_L C n d A s s.heap) : (Cond.laysStatic C n d).before args s = true := by
  obtain ⟨c, k, i, f, a, cell, h1, h2, h3, h4, h5, h6, h7, h8, h9, -⟩ := h
  show (Cond.laysStatic C n d).holds args s none s [] = true
  exact Cond.laysStatic_of h1 h2 h3 h4 h5 h6 h7 h8 h9
/-- .. and what it holds: null or some reference -/
def vx_Zq (C n d : String) (A : Nat → Prop) (U : State) (H : Heap) : Prop := va_Zq C n d A U H ∧ vx_L C n d A U H
theorem vx_Zq.moved {C n d : String} {A : Nat → Prop} {u U : State} {H : Heap} (hvm : u.vm.Alike U.vm) (h : vx_Zq C n d A u H) : vx_Zq C n d A U H := ⟨va_Zq.moved hvm h.1, vx_L.moved hvm h.2⟩
theorem vx_Zq.kept {C n d : String} {A : Nat → Prop} {U : State} {H H1 : Heap} (h : vx_Zq C n d A U H) (hq : ∀ a : Nat, a < H.size → ¬ A a → H1[a]? = H[a]?) : vx_Zq C n d A U H1 := ⟨va_Zq.kept h.1 hq, vx_L.kept h.2 hq⟩
theorem vx_Zq.narrow {C n d : String} {A B : Nat → Prop} {U : State} {H : Heap} (h : vx_Zq C n d A U H) (hAB : ∀ q, B q → A q) : vx_Zq C n d B U H := ⟨va_Zq.narrow h.1 hAB, vx_L.narrow h.2 hAB⟩
theorem vx_Zqof {args : Array Value} {s : State} {C n d : String} {A : Nat → Prop} (hl : (Cond.laysStatic C n d).before args s = true) (hini : (Cond.initialized C).before args s = true) (h : (Cond.isRef (.static C n d)).before args s = true) (hA : ∀ a : Nat, a < s.heap.size → ¬ A a) : vx_Zq C n d A s s.heap := by
  refine ⟨va_Zqof hl hini h hA, ?_⟩
  obtain ⟨c, k, i, f, a, cell, h1, h2, h3, h4, h5, h6, h7, h8, h9⟩ := Cond.laysStatic_spec hl
  exact ⟨c, k, i, f, a, cell, h1, h2, h3, h4, h5, h6, h7, h8, h9, hA a (Array.getElem?_eq_some_iff.mp h5).1⟩
theorem vx_isRef {C n d : String} {v : Value} {A : Nat → Prop} {s : State} {args : Array Value} (h : va_Z C n d v A s s.heap) (hv : v.isRef = true) : (Cond.isRef (.static C n d)).before args s = true := by
  obtain ⟨cf, kf, fi, f, a, cell, h1, h2, h3, h4, h5, h6, h7, -⟩ := h
  have he : (Term.static C n d).eval args s none [] s = some v := by
    simp [Term.eval, State.fieldNamed?, h1, h2, h4, h5, h6, h7]
  simp only [Cond.before, Cond.holds, Cond.value, he]
  cases v <;> simp_all [Value.isRef]
theorem vx_isRefq {C n d : String} {A : Nat → Prop} {s : State} {args : Array Value} (h : va_Zq C n d A s s.heap) : (Cond.isRef (.static C n d)).before args s = true := by
  rcases h with h | ⟨t, h⟩
  · exact vx_isRef h rfl
  · exact vx_isRef h rfl
/-- the same frame, seen from here: as if the method were called anew in this heap -/
theorem vx_rebase {T : State} (X : Stand p l e R s m args below meth c T locs cells slots) {R' : Room} (hf : R'.frames ≤ R.frames) (hl : R'.locals ≤ R.locals) (hc : cells + R'.cells ≤ R.cells) (hs : slots + R'.slots ≤ R.slots) :
    Stand p l e R' ((T.setVm s.vm).setFrames (.invoking m args :: below)) m args below meth c T [] 0 0 := by
  have htop : (T.setVm s.vm).topJava?.isSome := X.here.top
  have hF : ((T.setVm s.vm).setFrames (.invoking m args :: below)).frames = .invoking m args :: below := State.frames_setFrames _ (State.cur_lt_of_top htop)
  obtain ⟨g₀, hg0⟩ := Option.isSome_iff_exists.mp htop
  obtain ⟨r, hr⟩ := State.topJava?_eq_some.mp hg0
  have hl9 : e.platform.stackLimits (T.setVm s.vm).me = e.platform.stackLimits s.me := X.limits
  have hb9 : (T.setVm s.vm).me.stackBytes = s.me.stackBytes := X.bytes
  refine ⟨X.admits, X.cas, X.clock, hF, ?_, X.hears, X.method, X.code, X.here, X.tail, X.warmed, ?_, ?_, ?_⟩
  · have h := X.room
    have hU : ((T.setVm s.vm).setFrames (.invoking m args :: below)).localsInUse = s.localsInUse := by
      rw [State.localsInUse_invoking hF (meth := meth) (c := c) X.method X.code, State.localsInUse_invoking X.frames X.method X.code]
    simp only [State.hasRoom, Bool.and_eq_true, decide_eq_true_eq] at h ⊢
    obtain ⟨⟨⟨⟨h1, h2, h3, h4, h5, h6⟩, h7⟩, h8⟩, h9⟩ := h
    rw [X.frames, List.length_cons] at h2 h3
    have q1 := X.heapSize
    have q2 := X.used
    simp only [hF, hU, List.length_cons, State.stackLimits_setFrames, State.stackBytes_setFrames, hl9, hb9]
    refine ⟨⟨⟨⟨by omega, by omega, by omega, by omega, by omega, h6⟩, ?_⟩, ?_⟩, X.book⟩
    · show T.heap.size + R'.cells ≤ e.platform.maxCells
      omega
    · show T.slotsUsed + R'.slots ≤ e.platform.maxSlots
      omega
  · rw [State.stackLimits_setFrames]; rfl
  · rw [State.stackBytes_setFrames]; rfl
  · refine ⟨?_, Nat.le_refl _, Nat.le_refl _, ?_, ?_, fun a c9 h9 => ⟨c9, h9, rfl, rfl, fun _ _ => rfl⟩⟩
    · obtain ⟨t, ht, -⟩ := State.frames_cons hr
      show T.setVm s.vm = { ((T.setVm s.vm).setFrames (.invoking m args :: below)).setFrames (T.setVm s.vm).frames with heap := T.heap, slotsUsed := T.slotsUsed }
      rw [State.setFrames_setFrames, State.setFrames_self ht]
      rfl
    · show T.slotsUsed = T.slotsUsed + ((T.heap.toList.drop T.heap.size).map (·.slots.size)).sum
      rw [List.drop_eq_nil_of_le (Nat.le_of_eq Array.length_toList)]
      rfl
    · show ((T.heap.toList.drop T.heap.size).map (·.slots.size)).sum ≤ 0
      rw [List.drop_eq_nil_of_le (Nat.le_of_eq Array.length_toList)]
      exact Nat.le_refl _
/-- 'throw new E()': new; dup; invokespecial; athrow -/
theorem vx_throw0 {cc : ByteArray} {pc : Nat} (hexec : p.tables.exec = Jvm.exec) (hb : c.code = cc) (hl : l.stackTraces = false) {own cls : String} {names : List String} {ik ic mc ms : Nat} {A : Nat → Prop}
    (hown : s.vm.findClass own = some m.cls) (hcls : Bundle.fit cls = true) (hnames : ∀ n ∈ names, Bundle.fit n = true)
    (hk : (Cond.classLink own ik cls).before args s = true) (hini : (Cond.initialized cls).before args s = true) (hat : ∀ w ∈ vx_at0 own ic cls names, w.before args s = true)
    (hgood : ∀ w ∈ Cond.classLink own ik cls :: Cond.initialized cls :: vx_at0 own ic cls names, vx_ot w = true)
    (hU : vx_Zq Bundle.tN "UNASSIGNED_STACK" Bundle.steD A s s.heap) (hN : vx_Zq Bundle.tN "SUPPRESSED_SENTINEL" Bundle.listD A s s.heap) (hS : va_S A s.heap H locs) (hsize : ls.size = c.maxLocals)
    (d0 : decode cc pc = .ok (.new ik, 3)) (d3 : decode cc (pc + 3) = .ok (.dup, 1)) (d4 : decode cc (pc + 4) = .ok (.invokespecial ic, 3)) (d7 : decode cc (pc + 7) = .ok (.athrow, 1))
    (hout : ∀ x ∈ c.exceptionTable.toList, covers x (pc + 7) = false)
    (hRframes : names.length + 3 < R.frames) (hRlocals : (rest.map fun v => v.category).sum + (13 * (names.length + 1) + 42) ≤ R.locals) (hRcells : cells + 1 ≤ R.cells) (hRslots : slots + 6 ≤ R.slots) (hlocks : meth.locks = false)
    (hx : ∀ t : State, s.vm.Alike t.vm → H.size ≤ t.heap.size → (∀ q : Nat, q < H.size → t.heap[q]? = H[q]?) → XC cls s t)
    (hf : ∀ z ∈ locs, free z.base) (hc : cells + 1 ≤ mc) (hs : slots + 6 ≤ ms) :
    W p l e R s m args below meth c H locs cells slots (vx_MQ below Qc XC args s mc ms free) (F0 m pc ls rest) := by
  intro T hT X
  have htr : e.platform.stackTraces = false := (show e.platform.stackTraces = l.stackTraces by rw [X.admits.platform]).trans hl
  have Y := vx_rebase X (R' := { frames := R.frames, locals := R.locals, cells := 1, slots := 6 }) (Nat.le_refl _) (Nat.le_refl _) hRcells hRslots
  obtain ⟨s', hA⟩ : ∃ z, z = (T.setVm s.vm).setFrames (.invoking m args :: below) := ⟨_, rfl⟩
  rw [← hA] at Y
  have hvm : s'.vm = s.vm := by rw [hA]; rfl
  have hhp : s'.heap = H := by rw [hA]; exact hT
  have hW0 : s.WarmedH s'.vm := by rw [hvm]; exact State.WarmedH.refl s
  have hat' : ∀ w ∈ vx_at0 own ic cls names, w.before args s' = true := fun w hw => vx_ot_at hW0 hvm.symm (hgood w (List.mem_cons_of_mem _ (List.mem_cons_of_mem _ hw))) (hat w hw)
  have hk' : (Cond.classLink own ik cls).before args s' = true := vx_ot_at hW0 hvm.symm (hgood _ List.mem_cons_self) hk
  have hini' : (Cond.initialized cls).before args s' = true := vx_ot_at hW0 hvm.symm (hgood _ (List.mem_cons_of_mem _ List.mem_cons_self)) hini
  have hU' : vx_Zq Bundle.tN "UNASSIGNED_STACK" Bundle.steD A s' s'.heap := by rw [hhp]; exact vx_Zq.moved hW0.alike (hU.kept hS.2.1)
  have hN' : vx_Zq Bundle.tN "SUPPRESSED_SENTINEL" Bundle.listD A s' s'.heap := by rw [hhp]; exact vx_Zq.moved hW0.alike (hN.kept hS.2.1)
  have h : ∀ w ∈ Bundle.ownAtoms0 own ic cls names, w.before args s' = true := vx_own hat' (vx_isRefq hU'.1) (vx_isRefq hN'.1) hU'.2.word hN'.2.word
  have hown' : s'.vm.findClass own = some m.cls := by rw [hvm]; exact hown
  have hins : (Cond.instantiable cls 6).before args s' = true := h _ (by simp [Bundle.ownAtoms0])
  obtain ⟨vm₁, cX, kX, hfX, hkX, -, -, X₁, st1⟩ := Y.newCold hexec (own := own) (C := cls) (index := ik) (n := 6) hown' hk' hins hini'
    (g := F0 m pc ls rest) rfl (by rw [hb]; exact d0) (Nat.le_refl _) (Nat.le_refl _)
  generalize hT1 : (T.setVm vm₁).pushCell { cls := cX, slots := kX.instanceTypes.map defaultValue, vm := .none } = T1 at X₁ st1
  have hcat : (Value.ref T.heap.size).category = 1 := rfl
  have hcellA : T1.heap[T.heap.size]? = some (freshCell cX kX) := by rw [← hT1]; exact State.heap_pushCell_size _ _
  have d3' : decode c.code (pc + 3) = .ok (.dup, 1) := by rw [hb]; exact d3
  obtain ⟨U, hsteps, hrun, hend, hW, hsame, ce, hce, hO⟩ := X₁.ctorThrow0 hexec htr (own := own) (cls := cls) (names := names) (ic := ic) hown' hcls hnames h (fun x hx => nomatch hx) hfX hkX hcellA (by rw [hhp, hT]; exact Nat.le_refl _)
    (g := { method := m, pc := pc + 4, locals := ls, stack := .ref T.heap.size :: .ref T.heap.size :: rest, locked := none }) rfl hsize rfl rfl (rest := rest) rfl
    (by rw [hb]; exact d4) (by rw [hb]; exact d7) hout hRframes (by simp only [List.map_cons, List.sum_cons, hcat]; omega) hlocks
  obtain ⟨f1, f2⟩ := vx_frame hsame
  rw [hhp] at f1 f2
  have hWs : s.WarmedH U.vm := State.WarmedH.trans hW0 hW
  have hcl : s.vm.findClass cls = some ce.cls := by
    have h9 := hO.cls
    rw [hvm] at h9
    exact h9
  have hall : s.sameButNew ({ U with vm := s.vm } : State) locs mc ms := by
    subst hA
    obtain ⟨e1, e2⟩ := hsame
    rw [State.setFrames_setFrames] at e1
    have h2 : (T.setVm s.vm).sameButNew ({ U with vm := s.vm } : State) [] (0 + 1) (0 + 6) := ⟨e1, e2⟩
    have h3 := X.same.trans h2
    rw [List.append_nil] at h3
    exact h3.mono hc hs
  refine ⟨U, ?_, .threw T.heap.size, hrun, hend, Or.inr ⟨T.heap.size, rfl, cls, ce, locs, hx U hWs.alike f1 (fun q hq => f2 q hq (fun z hz => nomatch hz)), hce, hO.vm, hcl, hWs, hall, hf⟩⟩
  refine st1 _ ?_
  show Steps p.tables e below (T1.setTop { method := m, pc := pc + 3, locals := ls, stack := .ref T.heap.size :: rest, locked := none }) _
  jvm_step X₁.here [X₁.here.top, hexec, d3', Value.category]
  exact hsteps
/-- 'throw new E("text")': new; dup; ldc; invokespecial; athrow -/
theorem vx_throwS {cc : ByteArray} {pc : Nat} (hexec : p.tables.exec = Jvm.exec) (hb : c.code = cc) (hl : l.stackTraces = false) {own cls text : String} {names : List String} {ik is ic mc ms sa : Nat} {A : Nat → Prop}
    (hown : s.vm.findClass own = some m.cls) (hcls : Bundle.fit cls = true) (hnames : ∀ n ∈ names, Bundle.fit n = true)
    (hk : (Cond.classLink own ik cls).before args s = true) (hini : (Cond.initialized cls).before args s = true) (hstr : vk_R own is text sa s) (hat : ∀ w ∈ vx_atS own ic cls names, w.before args s = true)
    (hgood : ∀ w ∈ Cond.classLink own ik cls :: Cond.initialized cls :: vx_atS own ic cls names, vx_ot w = true)
    (hU : vx_Zq Bundle.tN "UNASSIGNED_STACK" Bundle.steD A s s.heap) (hN : vx_Zq Bundle.tN "SUPPRESSED_SENTINEL" Bundle.listD A s s.heap) (hS : va_S A s.heap H locs) (hsize : ls.size = c.maxLocals)
    (d0 : decode cc pc = .ok (.new ik, 3)) (d3 : decode cc (pc + 3) = .ok (.dup, 1)) (d4 : decode cc (pc + 4) = .ok (.ldc is, 2)) (d6 : decode cc (pc + 6) = .ok (.invokespecial ic, 3)) (d9 : decode cc (pc + 9) = .ok (.athrow, 1))
    (hout : ∀ x ∈ c.exceptionTable.toList, covers x (pc + 9) = false)
    (hRframes : names.length + 3 < R.frames) (hRlocals : (rest.map fun v => v.category).sum + (13 * (names.length + 1) + 43) ≤ R.locals) (hRcells : cells + 1 ≤ R.cells) (hRslots : slots + 6 ≤ R.slots) (hlocks : meth.locks = false)
    (hx : ∀ t : State, s.vm.Alike t.vm → H.size ≤ t.heap.size → (∀ q : Nat, q < H.size → t.heap[q]? = H[q]?) → XC cls s t)
    (hf : ∀ z ∈ locs, free z.base) (hc : cells + 1 ≤ mc) (hs : slots + 6 ≤ ms) :
    W p l e R s m args below meth c H locs cells slots (vx_MQ below Qc XC args s mc ms free) (F0 m pc ls rest) := by
  intro T hT X
  have htr : e.platform.stackTraces = false := (show e.platform.stackTraces = l.stackTraces by rw [X.admits.platform]).trans hl
  have Y := vx_rebase X (R' := { frames := R.frames, locals := R.locals, cells := 1, slots := 6 }) (Nat.le_refl _) (Nat.le_refl _) hRcells hRslots
  obtain ⟨s', hA⟩ : ∃ z, z = (T.setVm s.vm).setFrames (.invoking m args :: below) := ⟨_, rfl⟩
  rw [← hA] at Y
  have hvm : s'.vm = s.vm := by rw [hA]; rfl
  have hhp : s'.heap = H := by rw [hA]; exact hT
  have hW0 : s.WarmedH s'.vm := by rw [hvm]; exact State.WarmedH.refl s
  have hat' : ∀ w ∈ vx_atS own ic cls names, w.before args s' = true := fun w hw => vx_ot_at hW0 hvm.symm (hgood w (List.mem_cons_of_mem _ (List.mem_cons_of_mem _ hw))) (hat w hw)
  have hk' : (Cond.classLink own ik cls).before args s' = true := vx_ot_at hW0 hvm.symm (hgood _ List.mem_cons_self) hk
  have hini' : (Cond.initialized cls).before args s' = true := vx_ot_at hW0 hvm.symm (hgood _ (List.mem_cons_of_mem _ List.mem_cons_self)) hini
  have hU' : vx_Zq Bundle.tN "UNASSIGNED_STACK" Bundle.steD A s' s'.heap := by rw [hhp]; exact vx_Zq.moved hW0.alike (hU.kept hS.2.1)
  have hN' : vx_Zq Bundle.tN "SUPPRESSED_SENTINEL" Bundle.listD A s' s'.heap := by rw [hhp]; exact vx_Zq.moved hW0.alike (hN.kept hS.2.1)
  have h : ∀ w ∈ Bundle.ownAtoms own ic cls names, w.before args s' = true := vx_own hat' (vx_isRefq hU'.1) (vx_isRefq hN'.1) hU'.2.word hN'.2.word
  have hown' : s'.vm.findClass own = some m.cls := by rw [hvm]; exact hown
  have hins : (Cond.instantiable cls 6).before args s' = true := h _ (by simp [Bundle.ownAtoms])
  obtain ⟨vm₁, cX, kX, hfX, hkX, -, -, X₁, st1⟩ := Y.newCold hexec (own := own) (C := cls) (index := ik) (n := 6) hown' hk' hins hini'
    (g := F0 m pc ls rest) rfl (by rw [hb]; exact d0) (Nat.le_refl _) (Nat.le_refl _)
  generalize hT1 : (T.setVm vm₁).pushCell { cls := cX, slots := kX.instanceTypes.map defaultValue, vm := .none } = T1 at X₁ st1
  have hcat : (Value.ref T.heap.size).category = 1 := rfl
  have hcellA : T1.heap[T.heap.size]? = some (freshCell cX kX) := by rw [← hT1]; exact State.heap_pushCell_size _ _
  have d3' : decode c.code (pc + 3) = .ok (.dup, 1) := by rw [hb]; exact d3
  have d4' : decode c.code (pc + 4) = .ok (.ldc is, 2) := by rw [hb]; exact d4
  have hstr' : vk_R own is text sa s' := vk_R.warm hW0 hstr
  obtain ⟨U, hsteps, hrun, hend, hW, hsame, ce, hce, hO⟩ := X₁.ctorThrowS hexec htr (own := own) (cls := cls) (names := names) (ic := ic) hown' hcls hnames h (fun x hx => nomatch hx) hfX hkX hcellA (by rw [hhp, hT]; exact Nat.le_refl _) (msg := .ref sa) rfl
    (g := { method := m, pc := pc + 6, locals := ls, stack := .ref sa :: .ref T.heap.size :: .ref T.heap.size :: rest, locked := none }) rfl hsize rfl rfl (rest := rest) rfl
    (by rw [hb]; exact d6) (by rw [hb]; exact d9) hout hRframes (by simp only [List.map_cons, List.sum_cons, hcat]; omega) hlocks
  obtain ⟨f1, f2⟩ := vx_frame hsame
  rw [hhp] at f1 f2
  have hWs : s.WarmedH U.vm := State.WarmedH.trans hW0 hW
  have hcl : s.vm.findClass cls = some ce.cls := by
    have h9 := hO.cls
    rw [hvm] at h9
    exact h9
  have hall : s.sameButNew ({ U with vm := s.vm } : State) locs mc ms := by
    subst hA
    obtain ⟨e1, e2⟩ := hsame
    rw [State.setFrames_setFrames] at e1
    have h2 : (T.setVm s.vm).sameButNew ({ U with vm := s.vm } : State) [] (0 + 1) (0 + 6) := ⟨e1, e2⟩
    have h3 := X.same.trans h2
    rw [List.append_nil] at h3
    exact h3.mono hc hs
  refine ⟨U, ?_, .threw T.heap.size, hrun, hend, Or.inr ⟨T.heap.size, rfl, cls, ce, locs, hx U hWs.alike f1 (fun q hq => f2 q hq (fun z hz => nomatch hz)), hce, hO.vm, hcl, hWs, hall, hf⟩⟩
  refine st1 _ ?_
  show Steps p.tables e below (T1.setTop { method := m, pc := pc + 3, locals := ls, stack := .ref T.heap.size :: rest, locked := none }) _
  jvm_step X₁.here [X₁.here.top, hexec, d3', Value.category]
  exact X₁.ldcString hexec (own := own) (text := text) (index := is) (a := sa) hown' hstr'.1 hstr'.2
    (g := { method := m, pc := pc + 4, locals := ls, stack := .ref T.heap.size :: .ref T.heap.size :: rest, locked := none }) rfl d4' _ hsteps
/-- 'throw new E("text")', the text by a wide index -/
theorem vx_throwSW {cc : ByteArray} {pc : Nat} (hexec : p.tables.exec = Jvm.exec) (hb : c.code = cc) (hl : l.stackTraces = false) {own cls text : String} {names : List String} {ik is ic mc ms sa : Nat} {A : Nat → Prop}
    (hown : s.vm.findClass own = some m.cls) (hcls : Bundle.fit cls = true) (hnames : ∀ n ∈ names, Bundle.fit n = true)
    (hk : (Cond.classLink own ik cls).before args s = true) (hini : (Cond.initialized cls).before args s = true) (hstr : vk_R own is text sa s) (hat : ∀ w ∈ vx_atS own ic cls names, w.before args s = true)
    (hgood : ∀ w ∈ Cond.classLink own ik cls :: Cond.initialized cls :: vx_atS own ic cls names, vx_ot w = true)
    (hU : vx_Zq Bundle.tN "UNASSIGNED_STACK" Bundle.steD A s s.heap) (hN : vx_Zq Bundle.tN "SUPPRESSED_SENTINEL" Bundle.listD A s s.heap) (hS : va_S A s.heap H locs) (hsize : ls.size = c.maxLocals)
    (d0 : decode cc pc = .ok (.new ik, 3)) (d3 : decode cc (pc + 3) = .ok (.dup, 1)) (d4 : decode cc (pc + 4) = .ok (.ldc_w is, 3)) (d7 : decode cc (pc + 7) = .ok (.invokespecial ic, 3)) (d10 : decode cc (pc + 10) = .ok (.athrow, 1))
    (hout : ∀ x ∈ c.exceptionTable.toList, covers x (pc + 10) = false)
    (hRframes : names.length + 3 < R.frames) (hRlocals : (rest.map fun v => v.category).sum + (13 * (names.length + 1) + 43) ≤ R.locals) (hRcells : cells + 1 ≤ R.cells) (hRslots : slots + 6 ≤ R.slots) (hlocks : meth.locks = false)
    (hx : ∀ t : State, s.vm.Alike t.vm → H.size ≤ t.heap.size → (∀ q : Nat, q < H.size → t.heap[q]? = H[q]?) → XC cls s t)
    (hf : ∀ z ∈ locs, free z.base) (hc : cells + 1 ≤ mc) (hs : slots + 6 ≤ ms) :
    W p l e R s m args below meth c H locs cells slots (vx_MQ below Qc XC args s mc ms free) (F0 m pc ls rest) := by
  intro T hT X
  have htr : e.platform.stackTraces = false := (show e.platform.stackTraces = l.stackTraces by rw [X.admits.platform]).trans hl
  have Y := vx_rebase X (R' := { frames := R.frames, locals := R.locals, cells := 1, slots := 6 }) (Nat.le_refl _) (Nat.le_refl _) hRcells hRslots
  obtain ⟨s', hA⟩ : ∃ z, z = (T.setVm s.vm).setFrames (.invoking m args :: below) := ⟨_, rfl⟩
  rw [← hA] at Y
  have hvm : s'.vm = s.vm := by rw [hA]; rfl
  have hhp : s'.heap = H := by rw [hA]; exact hT
  have hW0 : s.WarmedH s'.vm := by rw [hvm]; exact State.WarmedH.refl s
  have hat' : ∀ w ∈ vx_atS own ic cls names, w.before args s' = true := fun w hw => vx_ot_at hW0 hvm.symm (hgood w (List.mem_cons_of_mem _ (List.mem_cons_of_mem _ hw))) (hat w hw)
  have hk' : (Cond.classLink own ik cls).before args s' = true := vx_ot_at hW0 hvm.symm (hgood _ List.mem_cons_self) hk
  have hini' : (Cond.initialized cls).before args s' = true := vx_ot_at hW0 hvm.symm (hgood _ (List.mem_cons_of_mem _ List.mem_cons_self)) hini
  have hU' : vx_Zq Bundle.tN "UNASSIGNED_STACK" Bundle.steD A s' s'.heap := by rw [hhp]; exact vx_Zq.moved hW0.alike (hU.kept hS.2.1)
  have hN' : vx_Zq Bundle.tN "SUPPRESSED_SENTINEL" Bundle.listD A s' s'.heap := by rw [hhp]; exact vx_Zq.moved hW0.alike (hN.kept hS.2.1)
  have h : ∀ w ∈ Bundle.ownAtoms own ic cls names, w.before args s' = true := vx_own hat' (vx_isRefq hU'.1) (vx_isRefq hN'.1) hU'.2.word hN'.2.word
  have hown' : s'.vm.findClass own = some m.cls := by rw [hvm]; exact hown
  have hins : (Cond.instantiable cls 6).before args s' = true := h _ (by simp [Bundle.ownAtoms])
  obtain ⟨vm₁, cX, kX, hfX, hkX, -, -, X₁, st1⟩ := Y.newCold hexec (own := own) (C := cls) (index := ik) (n := 6) hown' hk' hins hini'
    (g := F0 m pc ls rest) rfl (by rw [hb]; exact d0) (Nat.le_refl _) (Nat.le_refl _)
  generalize hT1 : (T.setVm vm₁).pushCell { cls := cX, slots := kX.instanceTypes.map defaultValue, vm := .none } = T1 at X₁ st1
  have hcat : (Value.ref T.heap.size).category = 1 := rfl
  have hcellA : T1.heap[T.heap.size]? = some (freshCell cX kX) := by rw [← hT1]; exact State.heap_pushCell_size _ _
  have d3' : decode c.code (pc + 3) = .ok (.dup, 1) := by rw [hb]; exact d3
  have d4' : decode c.code (pc + 4) = .ok (.ldc_w is, 3) := by rw [hb]; exact d4
  have hstr' : vk_R own is text sa s' := vk_R.warm hW0 hstr
  obtain ⟨U, hsteps, hrun, hend, hW, hsame, ce, hce, hO⟩ := X₁.ctorThrowS hexec htr (own := own) (cls := cls) (names := names) (ic := ic) hown' hcls hnames h (fun x hx => nomatch hx) hfX hkX hcellA (by rw [hhp, hT]; exact Nat.le_refl _) (msg := .ref sa) rfl
    (g := { method := m, pc := pc + 7, locals := ls, stack := .ref sa :: .ref T.heap.size :: .ref T.heap.size :: rest, locked := none }) rfl hsize rfl rfl (rest := rest) rfl
    (by rw [hb]; exact d7) (by rw [hb]; exact d10) hout hRframes (by simp only [List.map_cons, List.sum_cons, hcat]; omega) hlocks
  obtain ⟨f1, f2⟩ := vx_frame hsame
  rw [hhp] at f1 f2
  have hWs : s.WarmedH U.vm := State.WarmedH.trans hW0 hW
  have hcl : s.vm.findClass cls = some ce.cls := by
    have h9 := hO.cls
    rw [hvm] at h9
    exact h9
  have hall : s.sameButNew ({ U with vm := s.vm } : State) locs mc ms := by
    subst hA
    obtain ⟨e1, e2⟩ := hsame
    rw [State.setFrames_setFrames] at e1
    have h2 : (T.setVm s.vm).sameButNew ({ U with vm := s.vm } : State) [] (0 + 1) (0 + 6) := ⟨e1, e2⟩
    have h3 := X.same.trans h2
    rw [List.append_nil] at h3
    exact h3.mono hc hs
  refine ⟨U, ?_, .threw T.heap.size, hrun, hend, Or.inr ⟨T.heap.size, rfl, cls, ce, locs, hx U hWs.alike f1 (fun q hq => f2 q hq (fun z hz => nomatch hz)), hce, hO.vm, hcl, hWs, hall, hf⟩⟩
  refine st1 _ ?_
  show Steps p.tables e below (T1.setTop { method := m, pc := pc + 3, locals := ls, stack := .ref T.heap.size :: rest, locked := none }) _
  jvm_step X₁.here [X₁.here.top, hexec, d3', Value.category]
  exact X₁.ldcStringW hexec (own := own) (text := text) (index := is) (a := sa) hown' hstr'.1 hstr'.2
    (g := { method := m, pc := pc + 4, locals := ls, stack := .ref T.heap.size :: .ref T.heap.size :: rest, locked := none }) rfl d4' _ hsteps
end Ends
section Bodies
variable {l : Launch}
theorem vx_ofW {y : MethodName} {ws ws' : List Cond} {rm : Room} {Pc : Array Value → State → Prop} {Qc : Array Value → State → Outcome → State → Prop} {XC : String → State → State → Prop} {mc ms : Nat} {free : Addr → Prop} {cc : ByteArray} {maxL : Nat} {ret : Option FieldType}
    (hy : plainName y.cls = true) (hw : ws = Cond.code y cc maxL ret :: ws')
    (body : ∀ p e s m args below meth c s₁, BodyLoose p l y (headSpec ws rm) cc maxL ret e s m args below meth c s₁ → c.maxLocals = maxL → (∀ x ∈ c.exceptionTable.toList, False) → Pc args s →
      W p l e (headSpec ws rm).room s m args below meth c s.heap [] 0 0 (vx_MQ below Qc XC args s mc ms free) (entryFrame m args maxL)) : vx_Met l y ws rm Pc Qc XC mc ms free := by
  refine MetFree.of_bodyS (code := cc) (maxLocals := maxL) (ret := ret) hy ?_ ?_
  · intro args s m h hn
    obtain ⟨meth, c, h1, h2, h3, h4, h5, h6, -, -⟩ := Cond.code_spec hn (atoms_spec (ws := ws) h _ (by rw [hw]; exact List.mem_cons_self))
    exact ⟨meth, c, h1, h2, h3, h4, h5, h6⟩
  · intro p e s m args below meth c s₁ B hml hP _
    have hh0 : s₁.heap = s.heap := by rw [B.state]; rfl
    have ht : ∀ x ∈ c.exceptionTable.toList, False := by
      obtain ⟨meth9, c9, h1, h2, -, -, -, -, h7, -⟩ := Cond.code_spec B.named (atoms_spec (ws := ws) B.pre _ (by rw [hw]; exact List.mem_cons_self))
      cases Option.some.inj (h1.symm.trans B.method)
      cases Option.some.inj (h2.symm.trans (Stand.of_body B).code)
      intro x hx
      rw [Array.isEmpty_iff.mp h7] at hx
      cases hx
    obtain ⟨t, a1, o, b1, b2, b3⟩ := body p e s m args below meth c s₁ B hml ht hP s₁ hh0 (Stand.of_body B)
    exact ⟨t, o, a1, b1, b2, b3⟩
/-- the table of a body with handlers -/
theorem vx_table {p : Program} {x y : MethodName} {S : Spec} {cc bytes : ByteArray} {maxL maxL' : Nat} {ret ret' : Option FieldType} {e : Env} {s s₁ : State} {m : MethodId} {args : Array Value} {below : List Frame} {meth : Method} {c : Code} {hh : List (Nat × Nat × Nat × Nat)}
    (B : BodyLoose p l y S cc maxL ret e s m args below meth c s₁) (h : (Cond.codeWith y bytes maxL' ret' hh).before args s = true) : c.exceptionTable.toList = tableOf hh := by
  obtain ⟨m9, meth9, c9, hn9, h1, h2, -, -, h6, -⟩ := Cond.codeWith_spec h
  cases Option.some.inj (hn9.symm.trans B.named)
  cases Option.some.inj (h1.symm.trans B.method)
  cases Option.some.inj (h2.symm.trans (Stand.of_body B).code)
  rw [← h6, table_eq]
end Bodies
end VXA
/-! ===== END ===== -/
/-! ===== BEGIN a static call of a method with an exception table ===== -/
section VXS
variable {p : Program} {l : Launch} {e : Env} {R : Room} {s : State} {m : MethodId} {args : Array Value} {below : List Frame} {meth : Method} {c : Code} {T : State} {H : Heap} {locs : List Loc} {cells slots : Nat}
abbrev vx_CSW (R : Room) (s : State) (args : Array Value) (own : String) (index : Nat) (y : MethodName) (bytes : ByteArray) (maxL : Nat) (ret : Option FieldType) (hh : List (Nat × Nat × Nat × Nat)) (ws : List Cond) (rm : Room) (mc ms n : Nat) : Prop :=
  (rm.cells = mc ∧ rm.slots = ms ∧ rm.frames + 1 ≤ R.frames ∧ 8 + (maxL + 11) + rm.locals ≤ R.locals ∧ (∀ w ∈ ws, ∀ (a' : Array Value) (U : State), s.WarmedH U.vm → w.before a' U = true) ∧ Cond.codeWith y bytes maxL ret hh ∈ ws) ∧
  (Cond.codeWith y bytes maxL ret hh).before args s = true ∧ (Cond.initialized y.cls).before args s = true ∧ (y.cls ≠ "java/lang/invoke/MethodHandle" ∧ y.cls ≠ "java/lang/invoke/VarHandle") ∧
  (∀ sig, parseMethodDescriptor y.desc = some sig → n = sig.parameters.length) ∧ (Cond.methodLink own index y).before args s = true ∧ (Cond.static y).before args s = true
theorem vx_cwSW {own : String} {index maxL mc ms : Nat} {y : MethodName} {bytes : ByteArray} {ret : Option FieldType} {hh : List (Nat × Nat × Nat × Nat)} {Ts ws ws' : List Cond} {rm : Room} (n : Nat) (ht : ∀ w ∈ Ts, w.before args s = true) (hT : GoodIn Ts (va_wsS own index y ws)) (hw : ws = Cond.codeWith y bytes maxL ret hh :: ws') (hrc : rm.cells = mc) (hrs : rm.slots = ms)
    (hd : y.cls ≠ "java/lang/invoke/MethodHandle" ∧ y.cls ≠ "java/lang/invoke/VarHandle" ∧ (parseMethodDescriptor y.desc).map (fun d => d.parameters.length) = some n) (hR : rm.frames + 1 ≤ R.frames ∧ 8 + (maxL + 11) + rm.locals ≤ R.locals) :
    vx_CSW R s args own index y bytes maxL ret hh ws rm mc ms n := by
  have ok : ∀ w ∈ va_wsS own index y ws, w.before args s = true := fun w h => ht w (hT w h).1
  have hG : GoodIn Ts ws := fun w h => hT w (by unfold va_wsS; exact List.mem_append_right _ h)
  have hc : Cond.codeWith y bytes maxL ret hh ∈ ws := by rw [hw]; exact List.mem_cons_self
  refine ⟨⟨hrc, hrs, hR.1, hR.2, pay_in ht hG, hc⟩, ht _ (hG _ hc).1, ok _ (by simp [va_wsS]), ⟨hd.1, hd.2.1⟩, fun sig h => ?_, ok _ (by simp [va_wsS]), ok _ (by simp [va_wsS])⟩
  have h2 := hd.2.2
  rw [h] at h2
  exact (Option.some.inj h2).symm
theorem vx_callSW (X : Stand p l e R s m args below meth c T locs cells slots) (hexec : p.tables.exec = Jvm.exec) {own : String} {index : Nat} {y : MethodName} {bytes : ByteArray} {maxL : Nat} {ret : Option FieldType} {hh : List (Nat × Nat × Nat × Nat)}
    (hown : s.vm.findClass own = some m.cls) (hlink : (Cond.methodLink own index y).before args s = true) (hstat : (Cond.static y).before args s = true) (hinit : (Cond.initialized y.cls).before args s = true)
    (hcode : (Cond.codeWith y bytes maxL ret hh).before args s = true) (hy : y.cls ≠ "java/lang/invoke/MethodHandle" ∧ y.cls ≠ "java/lang/invoke/VarHandle")
    {W9 : Nat} {Pre : Pt → Array Value → Prop} {Post : Pt → Array Value → Option Value → Pt → Prop} (hK : Back l R p e below s args y 3 W9 Pre Post)
    {g : JFrame} (hg : g.method = m) (hsize : g.locals.size = c.maxLocals) {argsL rest : List Value} (hlen : ∀ sig, parseMethodDescriptor y.desc = some sig → argsL.length = sig.parameters.length)
    (hstack : g.stack = argsL.reverse ++ rest) (hW : 2 * g.monitorRoom + (rest.map fun v => v.category).sum ≤ W9) (hdg : decode c.code g.pc = .ok (.invokestatic index, 3))
    (hpre : ∀ vm₁, s.WarmedH vm₁ → Pre ⟨T.setVm vm₁, locs, cells, slots⟩ argsL.toArray) :
    ∃ (v : Option Value) (vm₁ : Vm) (B : Pt), s.WarmedH vm₁ ∧ Stand p l e R s m args below meth c B.U B.locs B.cells B.slots ∧ Post ⟨T.setVm vm₁, locs, cells, slots⟩ argsL.toArray v B ∧
      ∀ target, Steps p.tables e below (B.U.setTop { g with pc := g.pc + 3, stack := v.toList ++ rest }) target → Steps p.tables e below (T.setTop g) target := by
  obtain ⟨mk, methM, cM, hnamed, hmethM, -, -, -, -, -, -, hsigM⟩ := Cond.codeWith_spec hcode
  have hstatic : methM.isStatic = true := Cond.static_spec hnamed hmethM hstat
  obtain ⟨kP, hkP, -⟩ := className_of_methodNamed hnamed
  have hinitP : kP.init = .initialized := Cond.initialized_spec (findClass_of_methodNamed hnamed) hkP hinit
  obtain ⟨vm₁, X₁, hstep₁⟩ := X.invokestatic hexec hown hlink hnamed hmethM hstatic hkP hinitP hy (g := g) hg (argsL := argsL) (rest := rest) (hlen _ hsigM) hstack hdg
  obtain ⟨v, B, X', hpost, hsteps⟩ := hK m meth c ⟨T.setVm vm₁, locs, cells, slots⟩ { g with stack := rest } (.invokestatic index) mk argsL.toArray X₁ hg hsize hdg hW (X₁.named hnamed) (hpre vm₁ X₁.warmed)
  exact ⟨v, vm₁, B, X₁.warmed, X', hpost, fun target h => hstep₁ _ fun acts => by rw [doInvoke_state]; exact hsteps.trans h⟩
theorem vx_runSW {y : MethodName} {bytes cc : ByteArray} {maxL nL mc ms n index : Nat} {ret : Option FieldType} {hh : List (Nat × Nat × Nat × Nat)} {ws : List Cond} {rm : Room} {Pc : Array Value → State → Prop} {Qc : Array Value → State → Outcome → State → Prop} {free : Addr → Prop} {Ts : List Cond} {own : String} {As rest : List Value} {g : JFrame}
    (S : CallFix p m c cc nL s args Ts own) (hM : Met l y ws rm Pc Qc mc ms free) (cw : vx_CSW R s args own index y bytes maxL ret hh ws rm mc ms n) (hp : PreS s H Pc As)
    (hg : g.method = m) (hn : As.length = n) (hsize : g.locals.size = nL) (hstack : g.stack = As.reverse ++ rest) (hW : 2 * g.monitorRoom + (rest.map fun v => v.category).sum ≤ 8) (hdg : decode cc g.pc = .ok (.invokestatic index, 3)) (hf : cells + mc ≤ R.cells ∧ slots + ms ≤ R.slots) :
    va_Run p l e R s m args below meth c H locs cells slots mc ms g rest (Qc As.toArray) (free) := by
  obtain ⟨⟨hrc, hrs, hfr, hlo, hws, hcw⟩, hcode, hini, hy, hlen, hl, hstt⟩ := cw
  have hK : Back l R p e below s args y 3 8 (PreOf R mc ms Pc) (PostOf Qc mc ms free) := va_backW (hh := hh) (bytes := bytes) (maxL := maxL) (ret := ret) hM hp.1 hrc hrs hfr hlo hws hcw (fun a' U hW => word_at hW (Or.inl (by first | rfl | simp [Cond.onTables, Cond.keeps, Cond.steady])) hini)
  obtain ⟨hx, hb, hml, ho, -⟩ := S
  intro T hT X
  obtain ⟨v, vm₁, ⟨U', l2, c2, s2⟩, hW₁, X', ⟨g', mk, t, L, e1, e2, hq, h1, hL, h2, h3⟩, st⟩ := vx_callSW X hx (hh := hh) (bytes := bytes) (maxL := maxL) (ret := ret) ho hl hstt hini hcode hy hK hg (hsize.trans hml.symm) (argsL := As) (rest := rest) (fun sig h => hn.trans (hlen sig h)) hstack hW (by rw [hb]; exact hdg)
    (fun vm₁ hW₁ => ⟨hf.1, hf.2, hp.2 (T.setVm vm₁) hT hW₁⟩)
  dsimp only [Pt.U, Pt.locs, Pt.cells, Pt.slots] at X' e1 e2 h1 h2 h3 st
  subst h1; subst h2; subst h3
  exact ⟨v, (T.setVm vm₁).calling g' mk As.toArray, t, U', L, hT, X', hL, e1, e2, hq, st⟩
/-- a thing of a world lies in the heap -/
theorem vx_lt {D : va_G} {cl : List vw_C} {ws : va_W} {H1 : Heap} (h : va_P D cl ws H1) {k : Nat} {q : Nat × va_E} (hk : ws[k]? = some q) : q.1 < H1.size := (h k q hk).lt
end VXS
/-! ===== END ===== -/
/-! ===== BEGIN methods with a table of their own: called by a name, returning or throwing ===== -/
section VXH
/-! vx_backW, vx_callVX, vx_callSX, vx_callVW, vx_runVW, vx_runVX, vx_runSX, vx_ofWH follow the same proofs as their sisters above (Free/Laws.lean, Shelf42/LK1.lean); vx_outP calls Shelf42/NT130.lean (outThrough). -/
section
variable {l : Launch} {R : Room} {p : Program} {e : Env} {below : List Frame} {s : State} {sargs : Array Value} {y : MethodName} {len W9 : Nat}
theorem vx_backW {ws : List Cond} {rm : Room} {Pc : Array Value → State → Prop} {Qc : Array Value → State → Outcome → State → Prop} {XC : String → State → State → Prop} {mc ms : Nat} {free : Addr → Prop} {bytes : ByteArray} {maxL : Nat} {ret : Option FieldType} {hh : List (Nat × Nat × Nat × Nat)}
    (hM : vx_Met l y ws rm Pc Qc XC mc ms free) (hblind : FrameBlind Pc) (hrc : rm.cells = mc) (hrs : rm.slots = ms)
    (hframes : rm.frames + 1 ≤ R.frames) (hlocals : W9 + (maxL + 11) + rm.locals ≤ R.locals)
    (hws : ∀ w ∈ ws, ∀ a' U, s.WarmedH U.vm → w.before a' U = true) (hcode : Cond.codeWith y bytes maxL ret hh ∈ ws) (hinit : ∀ a' U, s.WarmedH U.vm → (Cond.initialized y.cls).before a' U = true) :
    vx_Back l R p e below s sargs y len W9 (PreOf R mc ms Pc) (PostOf Qc mc ms free) (vx_Post XC mc ms free) := by
  intro m meth c A g ig mk a X hg hsize hdg hW hn hp
  have h1 : (headSpec ws rm).pre.before a A.U = true := atoms_intro fun w hw => hws w hw _ _ X.warmed
  have h2 : (Cond.codeWith y bytes maxL ret hh).before a A.U = true := hws _ hcode _ _ X.warmed
  have h3 : (Cond.initialized y.cls).before a A.U = true := hinit _ _ X.warmed
  have h4 : A.cells + (headSpec ws rm).room.cells ≤ R.cells := by rw [show (headSpec ws rm).room.cells = mc from hrc]; exact hp.1
  have h5 : A.slots + (headSpec ws rm).room.slots ≤ R.slots := by rw [show (headSpec ws rm).room.slots = ms from hrs]; exact hp.2.1
  have hPc : Pc a (A.U.calling g mk a) := hblind _ _ _ _ hp.2.2
  obtain ⟨U, Ls, c0, s0⟩ := A
  dsimp only [Pt.U, Pt.locs, Pt.cells, Pt.slots] at h1 h2 h3 h4 h5 X hn hPc ⊢
  obtain ⟨m9, methY, cY, hn9, hmY, hcY, -, hlY, -⟩ := Cond.codeWith_spec h2
  cases Option.some.inj (hn9.symm.trans hn)
  obtain ⟨kY, hkY, -⟩ := className_of_methodNamed hn
  have hinitY : kY.init = .initialized := Cond.initialized_spec (findClass_of_methodNamed hn) hkY h3
  have h : At U g.method c below := by rw [hg]; exact X.here
  have hlocals9 : W9 + (maxL + 11) + (headSpec ws rm).room.locals ≤ R.locals := hlocals
  have happ : (headSpec ws rm).appliesLoose y e.platform (U.calling g mk a) = true :=
    Spec.appliesLoose_calling (g := g) h hdg hn hkY hinitY
      (X.room_calling (g := g) (R' := (headSpec ws rm).room) hsize hmY hcY hframes (by rw [hlY]; omega) h4 h5) h1
  obtain ⟨mid, hmid⟩ := h.above
  have hfr : (U.setTop g).frames = (.java g :: mid) ++ below := by rw [State.frames_setTop' g h.top, hmid]; rfl
  obtain ⟨o, s₂, hsteps, -, hend, hq⟩ := Steps.callFree hM p X.admits X.cas X.clock (acts := []) hfr happ hPc trivial
  have hq' : vx_Q Qc XC mc ms free a (U.calling g mk a) o s₂ := hq
  rw [State.frames_setTop' g h.top] at hend
  obtain ⟨g₀, hg0⟩ := Option.isSome_iff_exists.mp h.top
  obtain ⟨r, hr⟩ := State.topJava?_eq_some.mp hg0
  have hr' : (({ U with heap := s₂.heap, slotsUsed := s₂.slotsUsed } : State).setVm s₂.vm).frames = .java g₀ :: r := hr
  rcases hq' with ⟨hqc, L, hfe, hL⟩ | ⟨q, rfl, E, ce, L, hx, hce, hcv, hcl, hW₂, hsm, hL⟩
  · obtain ⟨⟨v, rfl⟩, hW₂, e2, q2, q3, q4, q5, q6⟩ := id hfe
    have e3 : s₂ = ({ (U.calling g mk a).setFrames s₂.frames with heap := s₂.heap, slotsUsed := s₂.slotsUsed } : State).setVm s₂.vm := by
      have : s₂ = ({ s₂ with vm := (U.calling g mk a).vm } : State).setVm s₂.vm := rfl
      rw [e2] at this
      exact this
    obtain ⟨c₂, i₂, len₂, hc₂, hd₂, hf₂⟩ := hend
    have hW' : U.WarmedH s₂.vm := hW₂
    have hcc : c₂ = c := by
      have h1 : s₂.code? g.method = U.code? g.method := by
        rw [State.code?_eq, State.code?_eq, hW'.alike.method?]
      exact Option.some.inj (hc₂.symm.trans (h1.trans h.code))
    subst hcc
    have hlen : len₂ = len := by rw [hdg] at hd₂; cases hd₂; rfl
    subst hlen
    have hs₂ : s₂ = (({ U with heap := s₂.heap, slotsUsed := s₂.slotsUsed } : State).setVm s₂.vm).setTop { g with pc := g.pc + len₂, stack := v.toList ++ g.stack } := by
      refine e3.trans ?_
      rw [hf₂, State.calling_eq h.top, State.setFrames_setFrames, State.setTop_of_frames _ hr', hr]
      rfl
    have hsame : U.sameButNew ({ U with heap := s₂.heap, slotsUsed := s₂.slotsUsed } : State) L mc ms := by
      refine ⟨?_, q2, q3, q4, q5, q6⟩
      obtain ⟨t, ht, -⟩ := State.frames_cons hr
      show ({ U with heap := s₂.heap, slotsUsed := s₂.slotsUsed } : State) = { U.setFrames U.frames with heap := s₂.heap, slotsUsed := s₂.slotsUsed }
      rw [State.setFrames_self ht]
    subst hg
    refine Or.inl ⟨v, ⟨(({ U with heap := s₂.heap, slotsUsed := s₂.slotsUsed } : State).setVm s₂.vm), Ls ++ L, c0 + mc, s0 + ms⟩,
      ⟨X.admits, X.cas, X.clock, X.frames, X.room, X.hears, X.method, X.code, (X.here.setHeapUsed s₂.heap s₂.slotsUsed).setVm hW'.alike, X.tail, State.WarmedH.trans X.warmed hW', X.limits, X.bytes, X.same.trans (hsame.setVm s.vm)⟩,
      ⟨g, mk, s₂, L, rfl, rfl, hqc, rfl, hL, rfl, rfl⟩, ?_⟩
    show Steps p.tables e below _ ((({ U with heap := s₂.heap, slotsUsed := s₂.slotsUsed } : State).setVm s₂.vm).setTop { g with pc := g.pc + len₂, stack := v.toList ++ g.stack })
    rw [← hs₂]
    exact hsteps
  · obtain ⟨e2, q2, q3, q4, q5, q6⟩ := id hsm
    have e3 : s₂ = ({ (U.calling g mk a).setFrames s₂.frames with heap := s₂.heap, slotsUsed := s₂.slotsUsed } : State).setVm s₂.vm := by
      have : s₂ = ({ s₂ with vm := (U.calling g mk a).vm } : State).setVm s₂.vm := rfl
      rw [e2] at this
      exact this
    have hf₂ : s₂.frames = .throwing q :: .java g :: U.frames.tail := hend
    have hW' : U.WarmedH s₂.vm := hW₂
    have hs₂ : s₂ = ((({ U with heap := s₂.heap, slotsUsed := s₂.slotsUsed } : State).setVm s₂.vm).setTop g).pushFrame (.throwing q) := by
      refine e3.trans ?_
      rw [hf₂, State.calling_eq h.top, State.setFrames_setFrames, State.pushFrame, State.frames_setTop _ hr', State.setTop_of_frames _ hr', State.setFrames_setFrames, hr]
      rfl
    have hsame : U.sameButNew ({ U with heap := s₂.heap, slotsUsed := s₂.slotsUsed } : State) L mc ms := by
      refine ⟨?_, q2, q3, q4, q5, q6⟩
      obtain ⟨t, ht, -⟩ := State.frames_cons hr
      show ({ U with heap := s₂.heap, slotsUsed := s₂.slotsUsed } : State) = { U.setFrames U.frames with heap := s₂.heap, slotsUsed := s₂.slotsUsed }
      rw [State.setFrames_self ht]
    subst hg
    refine Or.inr ⟨q, ⟨(({ U with heap := s₂.heap, slotsUsed := s₂.slotsUsed } : State).setVm s₂.vm), Ls ++ L, c0 + mc, s0 + ms⟩,
      ⟨X.admits, X.cas, X.clock, X.frames, X.room, X.hears, X.method, X.code, (X.here.setHeapUsed s₂.heap s₂.slotsUsed).setVm hW'.alike, X.tail, State.WarmedH.trans X.warmed hW', X.limits, X.bytes, X.same.trans (hsame.setVm s.vm)⟩,
      ⟨g, mk, s₂, L, E, ce, rfl, rfl, hx, hce, hcv, hcl, rfl, hL, rfl, rfl⟩, ?_⟩
    show Steps p.tables e below _ (((({ U with heap := s₂.heap, slotsUsed := s₂.slotsUsed } : State).setVm s₂.vm).setTop g).pushFrame (.throwing q))
    rw [← hs₂]
    exact hsteps
end
variable {p : Program} {l : Launch} {e : Env} {R : Room} {s : State} {m : MethodId} {args : Array Value} {below : List Frame} {meth : Method} {c : Code} {T : State} {H : Heap} {locs : List Loc} {cells slots : Nat}
theorem vx_callVX (X : Stand p l e R s m args below meth c T locs cells slots) (hexec : p.tables.exec = Jvm.exec) {own C : String} {index : Nat} {y : MethodName} {bytes : ByteArray} {maxL : Nat} {ret : Option FieldType} {hh : List (Nat × Nat × Nat × Nat)}
    (hown : s.vm.findClass own = some m.cls) (hlink : (Cond.methodLink own index y).before args s = true) (hinst : (Cond.instanceMethod y).before args s = true) (hsel : (Cond.selects C y y).before args s = true)
    (hcode : (Cond.codeWith y bytes maxL ret hh).before args s = true) (hy : y.cls ≠ "java/lang/invoke/MethodHandle" ∧ y.cls ≠ "java/lang/invoke/VarHandle")
    {W9 : Nat} {Pre : Pt → Array Value → Prop} {Post : Pt → Array Value → Option Value → Pt → Prop} {PostX : Pt → Array Value → Addr → Pt → Prop} (hK : vx_Back l R p e below s args y 3 W9 Pre Post PostX)
    {b : Addr} {cellB : Cell} (hcell : T.heap[b]? = some cellB) (hobj : cellB.vm.isStatics = false) (hcls : s.vm.findClass C = some cellB.cls)
    {g : JFrame} (hg : g.method = m) (hsize : g.locals.size = c.maxLocals) {argsL rest : List Value} (hlen : ∀ sig, parseMethodDescriptor y.desc = some sig → argsL.length = sig.parameters.length)
    (hstack : g.stack = argsL.reverse ++ .ref b :: rest) (hW : 2 * g.monitorRoom + (rest.map fun v => v.category).sum ≤ W9) (hdg : decode c.code g.pc = .ok (.invokevirtual index, 3))
    (hpre : ∀ vm₁, s.WarmedH vm₁ → Pre ⟨T.setVm vm₁, locs, cells, slots⟩ (Value.ref b :: argsL).toArray) :
    (∃ (v : Option Value) (vm₁ : Vm) (B : Pt), s.WarmedH vm₁ ∧ Stand p l e R s m args below meth c B.U B.locs B.cells B.slots ∧ Post ⟨T.setVm vm₁, locs, cells, slots⟩ (Value.ref b :: argsL).toArray v B ∧
      ∀ target, Steps p.tables e below (B.U.setTop { g with pc := g.pc + 3, stack := v.toList ++ rest }) target → Steps p.tables e below (T.setTop g) target) ∨
    (∃ (q : Addr) (vm₁ : Vm) (B : Pt), s.WarmedH vm₁ ∧ Stand p l e R s m args below meth c B.U B.locs B.cells B.slots ∧ PostX ⟨T.setVm vm₁, locs, cells, slots⟩ (Value.ref b :: argsL).toArray q B ∧
      Steps p.tables e below (T.setTop g) ((B.U.setTop { g with stack := rest }).pushFrame (.throwing q))) := by
  obtain ⟨mk, methM, hnamed, hmethM, hstM, habM⟩ := Cond.instanceMethod_spec hinst
  obtain ⟨m8, methM', cM, hn8, hmethM', -, -, -, -, -, -, hsigM⟩ := Cond.codeWith_spec hcode
  cases Option.some.inj (hn8.symm.trans hnamed)
  cases hmethM.symm.trans hmethM'
  obtain ⟨c2, r2, m2, q1, q2, q3, q4, kP, hkP, hkPi⟩ := Cond.selects_spec hsel
  cases hcls.symm.trans q1
  cases (State.methodFound?_of_named hnamed hy).symm.trans q2
  cases hnamed.symm.trans q3
  have hselP : selectMethod e.platform s.vm cellB.cls mk = .method mk := by rw [Launch.admits_selectMethod X.admits]; exact q4
  obtain ⟨vm₁, X₁, hstep₁⟩ := X.invokevirtual hexec hown hlink hnamed hmethM hstM hkP hkPi hy (a := b) (cell := cellB) hcell
    (fun z h => by rw [h] at hobj; cases hobj) hselP hmethM habM hkP hkPi (g := g) hg (argsL := argsL) (rest := rest) (hlen _ hsigM) hstack hdg
  rcases hK m meth c ⟨T.setVm vm₁, locs, cells, slots⟩ { g with stack := rest } (.invokevirtual index) mk (Value.ref b :: argsL).toArray X₁ hg hsize hdg hW (X₁.named hnamed) (hpre vm₁ X₁.warmed) with ⟨v, B, X', hpost, hsteps⟩ | ⟨q, B, X', hpost, hsteps⟩
  · exact Or.inl ⟨v, vm₁, B, X₁.warmed, X', hpost, fun target h => hstep₁ _ fun acts => by rw [doInvoke_state]; exact hsteps.trans h⟩
  · exact Or.inr ⟨q, vm₁, B, X₁.warmed, X', hpost, hstep₁ _ fun acts => by rw [doInvoke_state]; exact hsteps⟩
theorem vx_callSX (X : Stand p l e R s m args below meth c T locs cells slots) (hexec : p.tables.exec = Jvm.exec) {own : String} {index : Nat} {y : MethodName} {bytes : ByteArray} {maxL : Nat} {ret : Option FieldType} {hh : List (Nat × Nat × Nat × Nat)}
    (hown : s.vm.findClass own = some m.cls) (hlink : (Cond.methodLink own index y).before args s = true) (hstat : (Cond.static y).before args s = true) (hinit : (Cond.initialized y.cls).before args s = true)
    (hcode : (Cond.codeWith y bytes maxL ret hh).before args s = true) (hy : y.cls ≠ "java/lang/invoke/MethodHandle" ∧ y.cls ≠ "java/lang/invoke/VarHandle")
    {W9 : Nat} {Pre : Pt → Array Value → Prop} {Post : Pt → Array Value → Option Value → Pt → Prop} {PostX : Pt → Array Value → Addr → Pt → Prop} (hK : vx_Back l R p e below s args y 3 W9 Pre Post PostX)
    {g : JFrame} (hg : g.method = m) (hsize : g.locals.size = c.maxLocals) {argsL rest : List Value} (hlen : ∀ sig, parseMethodDescriptor y.desc = some sig → argsL.length = sig.parameters.length)
    (hstack : g.stack = argsL.reverse ++ rest) (hW : 2 * g.monitorRoom + (rest.map fun v => v.category).sum ≤ W9) (hdg : decode c.code g.pc = .ok (.invokestatic index, 3))
    (hpre : ∀ vm₁, s.WarmedH vm₁ → Pre ⟨T.setVm vm₁, locs, cells, slots⟩ argsL.toArray) :
    (∃ (v : Option Value) (vm₁ : Vm) (B : Pt), s.WarmedH vm₁ ∧ Stand p l e R s m args below meth c B.U B.locs B.cells B.slots ∧ Post ⟨T.setVm vm₁, locs, cells, slots⟩ argsL.toArray v B ∧
      ∀ target, Steps p.tables e below (B.U.setTop { g with pc := g.pc + 3, stack := v.toList ++ rest }) target → Steps p.tables e below (T.setTop g) target) ∨
    (∃ (q : Addr) (vm₁ : Vm) (B : Pt), s.WarmedH vm₁ ∧ Stand p l e R s m args below meth c B.U B.locs B.cells B.slots ∧ PostX ⟨T.setVm vm₁, locs, cells, slots⟩ argsL.toArray q B ∧
      Steps p.tables e below (T.setTop g) ((B.U.setTop { g with stack := rest }).pushFrame (.throwing q))) := by
  obtain ⟨mk, methM, cM, hnamed, hmethM, -, -, -, -, -, -, hsigM⟩ := Cond.codeWith_spec hcode
  have hstatic : methM.isStatic = true := Cond.static_spec hnamed hmethM hstat
  obtain ⟨kP, hkP, -⟩ := className_of_methodNamed hnamed
  have hinitP : kP.init = .initialized := Cond.initialized_spec (findClass_of_methodNamed hnamed) hkP hinit
  obtain ⟨vm₁, X₁, hstep₁⟩ := X.invokestatic hexec hown hlink hnamed hmethM hstatic hkP hinitP hy (g := g) hg (argsL := argsL) (rest := rest) (hlen _ hsigM) hstack hdg
  rcases hK m meth c ⟨T.setVm vm₁, locs, cells, slots⟩ { g with stack := rest } (.invokestatic index) mk argsL.toArray X₁ hg hsize hdg hW (X₁.named hnamed) (hpre vm₁ X₁.warmed) with ⟨v, B, X', hpost, hsteps⟩ | ⟨q, B, X', hpost, hsteps⟩
  · exact Or.inl ⟨v, vm₁, B, X₁.warmed, X', hpost, fun target h => hstep₁ _ fun acts => by rw [doInvoke_state]; exact hsteps.trans h⟩
  · exact Or.inr ⟨q, vm₁, B, X₁.warmed, X', hpost, hstep₁ _ fun acts => by rw [doInvoke_state]; exact hsteps⟩
theorem vx_callVW (X : Stand p l e R s m args below meth c T locs cells slots) (hexec : p.tables.exec = Jvm.exec) {own C : String} {index : Nat} {y : MethodName} {bytes : ByteArray} {maxL : Nat} {ret : Option FieldType} {hh : List (Nat × Nat × Nat × Nat)}
    (hown : s.vm.findClass own = some m.cls) (hlink : (Cond.methodLink own index y).before args s = true) (hinst : (Cond.instanceMethod y).before args s = true) (hsel : (Cond.selects C y y).before args s = true)
    (hcode : (Cond.codeWith y bytes maxL ret hh).before args s = true) (hy : y.cls ≠ "java/lang/invoke/MethodHandle" ∧ y.cls ≠ "java/lang/invoke/VarHandle")
    {W9 : Nat} {Pre : Pt → Array Value → Prop} {Post : Pt → Array Value → Option Value → Pt → Prop} (hK : Back l R p e below s args y 3 W9 Pre Post)
    {b : Addr} {cellB : Cell} (hcell : T.heap[b]? = some cellB) (hobj : cellB.vm.isStatics = false) (hcls : s.vm.findClass C = some cellB.cls)
    {g : JFrame} (hg : g.method = m) (hsize : g.locals.size = c.maxLocals) {argsL rest : List Value} (hlen : ∀ sig, parseMethodDescriptor y.desc = some sig → argsL.length = sig.parameters.length)
    (hstack : g.stack = argsL.reverse ++ .ref b :: rest) (hW : 2 * g.monitorRoom + (rest.map fun v => v.category).sum ≤ W9) (hdg : decode c.code g.pc = .ok (.invokevirtual index, 3))
    (hpre : ∀ vm₁, s.WarmedH vm₁ → Pre ⟨T.setVm vm₁, locs, cells, slots⟩ (Value.ref b :: argsL).toArray) :
    ∃ (v : Option Value) (vm₁ : Vm) (B : Pt), s.WarmedH vm₁ ∧ Stand p l e R s m args below meth c B.U B.locs B.cells B.slots ∧ Post ⟨T.setVm vm₁, locs, cells, slots⟩ (Value.ref b :: argsL).toArray v B ∧
      ∀ target, Steps p.tables e below (B.U.setTop { g with pc := g.pc + 3, stack := v.toList ++ rest }) target → Steps p.tables e below (T.setTop g) target := by
  obtain ⟨mk, methM, hnamed, hmethM, hstM, habM⟩ := Cond.instanceMethod_spec hinst
  obtain ⟨m8, methM', cM, hn8, hmethM', -, -, -, -, -, -, hsigM⟩ := Cond.codeWith_spec hcode
  cases Option.some.inj (hn8.symm.trans hnamed)
  cases hmethM.symm.trans hmethM'
  obtain ⟨c2, r2, m2, q1, q2, q3, q4, kP, hkP, hkPi⟩ := Cond.selects_spec hsel
  cases hcls.symm.trans q1
  cases (State.methodFound?_of_named hnamed hy).symm.trans q2
  cases hnamed.symm.trans q3
  have hselP : selectMethod e.platform s.vm cellB.cls mk = .method mk := by rw [Launch.admits_selectMethod X.admits]; exact q4
  obtain ⟨vm₁, X₁, hstep₁⟩ := X.invokevirtual hexec hown hlink hnamed hmethM hstM hkP hkPi hy (a := b) (cell := cellB) hcell
    (fun z h => by rw [h] at hobj; cases hobj) hselP hmethM habM hkP hkPi (g := g) hg (argsL := argsL) (rest := rest) (hlen _ hsigM) hstack hdg
  obtain ⟨v, B, X', hpost, hsteps⟩ := hK m meth c ⟨T.setVm vm₁, locs, cells, slots⟩ { g with stack := rest } (.invokevirtual index) mk (Value.ref b :: argsL).toArray X₁ hg hsize hdg hW (X₁.named hnamed) (hpre vm₁ X₁.warmed)
  exact ⟨v, vm₁, B, X₁.warmed, X', hpost, fun target h => hstep₁ _ fun acts => by rw [doInvoke_state]; exact hsteps.trans h⟩
abbrev vx_CVW (R : Room) (s : State) (args : Array Value) (own C : String) (index : Nat) (y : MethodName) (bytes : ByteArray) (maxL : Nat) (ret : Option FieldType) (hh : List (Nat × Nat × Nat × Nat)) (ws : List Cond) (rm : Room) (mc ms n : Nat) : Prop :=
  (rm.cells = mc ∧ rm.slots = ms ∧ rm.frames + 1 ≤ R.frames ∧ 8 + (maxL + 11) + rm.locals ≤ R.locals ∧ (∀ w ∈ ws, ∀ (a' : Array Value) (U : State), s.WarmedH U.vm → w.before a' U = true) ∧ Cond.codeWith y bytes maxL ret hh ∈ ws) ∧
  (Cond.codeWith y bytes maxL ret hh).before args s = true ∧ (Cond.initialized y.cls).before args s = true ∧ (y.cls ≠ "java/lang/invoke/MethodHandle" ∧ y.cls ≠ "java/lang/invoke/VarHandle") ∧
  (∀ sig, parseMethodDescriptor y.desc = some sig → n = sig.parameters.length) ∧ (Cond.methodLink own index y).before args s = true ∧ (Cond.instanceMethod y).before args s = true ∧ (Cond.selects C y y).before args s = true
theorem vx_cwVW {own C : String} {index maxL mc ms : Nat} {y : MethodName} {bytes : ByteArray} {ret : Option FieldType} {hh : List (Nat × Nat × Nat × Nat)} {Ts ws ws' : List Cond} {rm : Room} (n : Nat) (ht : ∀ w ∈ Ts, w.before args s = true) (hT : GoodIn Ts (wsV own index C y ws)) (hw : ws = Cond.codeWith y bytes maxL ret hh :: ws') (hrc : rm.cells = mc) (hrs : rm.slots = ms)
    (hd : y.cls = C ∧ y.cls ≠ "java/lang/invoke/MethodHandle" ∧ y.cls ≠ "java/lang/invoke/VarHandle" ∧ (parseMethodDescriptor y.desc).map (fun d => d.parameters.length) = some n) (hR : rm.frames + 1 ≤ R.frames ∧ 8 + (maxL + 11) + rm.locals ≤ R.locals) :
    vx_CVW R s args own C index y bytes maxL ret hh ws rm mc ms n := by
  obtain ⟨hC, hd⟩ := hd
  subst hC
  have ok : ∀ w ∈ wsV own index y.cls y ws, w.before args s = true := fun w h => ht w (hT w h).1
  have hG : GoodIn Ts ws := fun w h => hT w (by unfold wsV; exact List.mem_append_right _ h)
  have hc : Cond.codeWith y bytes maxL ret hh ∈ ws := by rw [hw]; exact List.mem_cons_self
  refine ⟨⟨hrc, hrs, hR.1, hR.2, pay_in ht hG, hc⟩, ht _ (hG _ hc).1, ok _ (by simp [wsV]), ⟨hd.1, hd.2.1⟩, fun sig h => ?_, ok _ (by simp [wsV]), ok _ (by simp [wsV]), ok _ (by simp [wsV])⟩
  have h2 := hd.2.2
  rw [h] at h2
  exact (Option.some.inj h2).symm
theorem vx_runVW {y : MethodName} {bytes cc : ByteArray} {maxL nL mc ms n index : Nat} {ret : Option FieldType} {hh : List (Nat × Nat × Nat × Nat)} {ws : List Cond} {rm : Room} {Pc : Array Value → State → Prop} {Qc : Array Value → State → Outcome → State → Prop} {free : Addr → Prop} {Ts : List Cond} {own C : String} {b : Addr} {As rest : List Value} {g : JFrame}
    (S : CallFix p m c cc nL s args Ts own) (hM : Met l y ws rm Pc Qc mc ms free) (cw : vx_CVW R s args own C index y bytes maxL ret hh ws rm mc ms n) (hp : PreV s H C b Pc As)
    (hg : g.method = m) (hn : As.length = n) (hsize : g.locals.size = nL) (hstack : g.stack = As.reverse ++ .ref b :: rest) (hW : 2 * g.monitorRoom + (rest.map fun v => v.category).sum ≤ 8) (hdg : decode cc g.pc = .ok (.invokevirtual index, 3)) (hf : cells + mc ≤ R.cells ∧ slots + ms ≤ R.slots) :
    va_Run p l e R s m args below meth c H locs cells slots mc ms g rest (Qc (Value.ref b :: As).toArray) free := by
  obtain ⟨⟨hrc, hrs, hfr, hlo, hws, hcw⟩, hcode, hini, hy, hlen, hl, hin, hse⟩ := cw
  have hK : Back l R p e below s args y 3 8 (PreOf R mc ms Pc) (PostOf Qc mc ms free) := va_backW (hh := hh) (bytes := bytes) (maxL := maxL) (ret := ret) hM hp.1 hrc hrs hfr hlo hws hcw (fun a' U hW => word_at hW (Or.inl (by first | rfl | simp [Cond.onTables, Cond.keeps, Cond.steady])) hini)
  obtain ⟨hx, hb, hml, ho, -⟩ := S
  obtain ⟨-, ⟨cellB, hcB, hoB, hclB⟩, hPc⟩ := hp
  intro T hT X
  obtain ⟨v, vm₁, ⟨U', l2, c2, s2⟩, hW₁, X', ⟨g', mk, t, L, e1, e2, hq, h1, hL, h2, h3⟩, st⟩ := vx_callVW X hx (C := C) (hh := hh) (bytes := bytes) (maxL := maxL) (ret := ret) ho hl hin hse hcode hy hK (by rw [hT]; exact hcB) hoB hclB hg (hsize.trans hml.symm) (argsL := As) (rest := rest) (fun sig h => hn.trans (hlen sig h)) hstack hW (by rw [hb]; exact hdg)
    (fun vm₁ hW₁ => ⟨hf.1, hf.2, hPc (T.setVm vm₁) hT hW₁⟩)
  dsimp only [Pt.U, Pt.locs, Pt.cells, Pt.slots] at X' e1 e2 h1 h2 h3 st
  subst h1; subst h2; subst h3
  exact ⟨v, (T.setVm vm₁).calling g' mk (Value.ref b :: As).toArray, t, U', L, hT, X', hL, e1, e2, hq, st⟩
section
variable {y : MethodName} {bytes cc : ByteArray} {maxL nL mc ms n index : Nat} {ret : Option FieldType} {ws : List Cond} {rm : Room} {Pc : Array Value → State → Prop} {Qc : Array Value → State → Outcome → State → Prop} {XC : String → State → State → Prop} {free : Addr → Prop} {Ts : List Cond} {own C : String} {b : Addr} {As rest : List Value} {g : JFrame}
theorem vx_runVX {hh : List (Nat × Nat × Nat × Nat)} (S : CallFix p m c cc nL s args Ts own) (hM : vx_Met l y ws rm Pc Qc XC mc ms free) (cw : vx_CVW R s args own C index y bytes maxL ret hh ws rm mc ms n) (hp : PreV s H C b Pc As)
    (hg : g.method = m) (hn : As.length = n) (hsize : g.locals.size = nL) (hstack : g.stack = As.reverse ++ .ref b :: rest) (hW : 2 * g.monitorRoom + (rest.map fun v => v.category).sum ≤ 8) (hdg : decode cc g.pc = .ok (.invokevirtual index, 3)) (hf : cells + mc ≤ R.cells ∧ slots + ms ≤ R.slots) :
    vx_Run p l e R s m args below meth c H locs cells slots mc ms g rest (Qc (Value.ref b :: As).toArray) XC free := by
  obtain ⟨⟨hrc, hrs, hfr, hlo, hws, hcw⟩, hcode, hini, hy, hlen, hl, hin, hse⟩ := cw
  have hK : vx_Back l R p e below s args y 3 8 (PreOf R mc ms Pc) (PostOf Qc mc ms free) (vx_Post XC mc ms free) := vx_backW (hh := hh) (bytes := bytes) (maxL := maxL) (ret := ret) hM hp.1 hrc hrs hfr hlo hws hcw (fun a' U hW => word_at hW (Or.inl (by first | rfl | simp [Cond.onTables, Cond.keeps, Cond.steady])) hini)
  obtain ⟨hx, hb, hml, ho, -⟩ := S
  obtain ⟨-, ⟨cellB, hcB, hoB, hclB⟩, hPc⟩ := hp
  intro T hT X
  rcases vx_callVX X hx (C := C) (hh := hh) (bytes := bytes) (maxL := maxL) (ret := ret) ho hl hin hse hcode hy hK (by rw [hT]; exact hcB) hoB hclB hg (hsize.trans hml.symm) (argsL := As) (rest := rest) (fun sig h => hn.trans (hlen sig h)) hstack hW (by rw [hb]; exact hdg)
    (fun vm₁ hW₁ => ⟨hf.1, hf.2, hPc (T.setVm vm₁) hT hW₁⟩) with ⟨v, vm₁, ⟨U', l2, c2, s2⟩, hW₁, X', ⟨g', mk, t, L, e1, e2, hq, h1, hL, h2, h3⟩, st⟩ | ⟨q, vm₁, ⟨U', l2, c2, s2⟩, hW₁, X', ⟨g', mk, t, L, E, ce, e1, e2, hq, hce, hcv, hcl, h1, hL, h2, h3⟩, st⟩
  · dsimp only [Pt.U, Pt.locs, Pt.cells, Pt.slots] at X' e1 e2 h1 h2 h3 st
    subst h1; subst h2; subst h3
    exact Or.inl ⟨v, (T.setVm vm₁).calling g' mk (Value.ref b :: As).toArray, t, U', L, hT, X', hL, e1, e2, hq, st⟩
  · dsimp only [Pt.U, Pt.locs, Pt.cells, Pt.slots] at X' e1 e2 h1 h2 h3 st hcl
    subst h1; subst h2; subst h3
    exact Or.inr ⟨q, (T.setVm vm₁).calling g' mk (Value.ref b :: As).toArray, t, U', L, E, ce, hT, X', hL, e1, e2, hq, hce, hcv, vx_cls hW₁ hcl, st⟩
theorem vx_runSX {hh : List (Nat × Nat × Nat × Nat)} (S : CallFix p m c cc nL s args Ts own) (hM : vx_Met l y ws rm Pc Qc XC mc ms free) (cw : vx_CSW R s args own index y bytes maxL ret hh ws rm mc ms n) (hp : PreS s H Pc As)
    (hg : g.method = m) (hn : As.length = n) (hsize : g.locals.size = nL) (hstack : g.stack = As.reverse ++ rest) (hW : 2 * g.monitorRoom + (rest.map fun v => v.category).sum ≤ 8) (hdg : decode cc g.pc = .ok (.invokestatic index, 3)) (hf : cells + mc ≤ R.cells ∧ slots + ms ≤ R.slots) :
    vx_Run p l e R s m args below meth c H locs cells slots mc ms g rest (Qc As.toArray) XC free := by
  obtain ⟨⟨hrc, hrs, hfr, hlo, hws, hcw⟩, hcode, hini, hy, hlen, hl, hstt⟩ := cw
  have hK : vx_Back l R p e below s args y 3 8 (PreOf R mc ms Pc) (PostOf Qc mc ms free) (vx_Post XC mc ms free) := vx_backW (hh := hh) (bytes := bytes) (maxL := maxL) (ret := ret) hM hp.1 hrc hrs hfr hlo hws hcw (fun a' U hW => word_at hW (Or.inl (by first | rfl | simp [Cond.onTables, Cond.keeps, Cond.steady])) hini)
  obtain ⟨hx, hb, hml, ho, -⟩ := S
  intro T hT X
  rcases vx_callSX X hx (hh := hh) (bytes := bytes) (maxL := maxL) (ret := ret) ho hl hstt hini hcode hy hK hg (hsize.trans hml.symm) (argsL := As) (rest := rest) (fun sig h => hn.trans (hlen sig h)) hstack hW (by rw [hb]; exact hdg)
    (fun vm₁ hW₁ => ⟨hf.1, hf.2, hp.2 (T.setVm vm₁) hT hW₁⟩) with ⟨v, vm₁, ⟨U', l2, c2, s2⟩, hW₁, X', ⟨g', mk, t, L, e1, e2, hq, h1, hL, h2, h3⟩, st⟩ | ⟨q, vm₁, ⟨U', l2, c2, s2⟩, hW₁, X', ⟨g', mk, t, L, E, ce, e1, e2, hq, hce, hcv, hcl, h1, hL, h2, h3⟩, st⟩
  · dsimp only [Pt.U, Pt.locs, Pt.cells, Pt.slots] at X' e1 e2 h1 h2 h3 st
    subst h1; subst h2; subst h3
    exact Or.inl ⟨v, (T.setVm vm₁).calling g' mk As.toArray, t, U', L, hT, X', hL, e1, e2, hq, st⟩
  · dsimp only [Pt.U, Pt.locs, Pt.cells, Pt.slots] at X' e1 e2 h1 h2 h3 st hcl
    subst h1; subst h2; subst h3
    exact Or.inr ⟨q, (T.setVm vm₁).calling g' mk As.toArray, t, U', L, E, ce, hT, X', hL, e1, e2, hq, hce, hcv, vx_cls hW₁ hcl, st⟩
end
end VXH
theorem vx_ofWH {l : Launch} {y : MethodName} {ws ws' : List Cond} {rm : Room} {Pc : Array Value → State → Prop} {Qc : Array Value → State → Outcome → State → Prop} {XC : String → State → State → Prop} {mc ms : Nat} {free : Addr → Prop} {cc : ByteArray} {maxL : Nat} {ret : Option FieldType} {hh : List (Nat × Nat × Nat × Nat)}
    (hy : plainName y.cls = true) (hw : ws = Cond.codeWith y cc maxL ret hh :: ws')
    (body : ∀ p e s m args below meth c s₁, BodyLoose p l y (headSpec ws rm) cc maxL ret e s m args below meth c s₁ → c.maxLocals = maxL → Pc args s →
      W p l e (headSpec ws rm).room s m args below meth c s.heap [] 0 0 (vx_MQ below Qc XC args s mc ms free) (entryFrame m args maxL)) : vx_Met l y ws rm Pc Qc XC mc ms free := by
  refine MetFree.of_bodyS (code := cc) (maxLocals := maxL) (ret := ret) hy ?_ ?_
  · intro args s m h hn
    obtain ⟨m9, meth, c, hn9, h1, h2, h3, h4, -, h5, h6, -⟩ := Cond.codeWith_spec (atoms_spec (ws := ws) h _ (by rw [hw]; exact List.mem_cons_self))
    cases hn.symm.trans hn9
    exact ⟨meth, c, h1, h2, h3, h4, h5, h6⟩
  · intro p e s m args below meth c s₁ B hml hP _
    have hh0 : s₁.heap = s.heap := by rw [B.state]; rfl
    obtain ⟨t, a1, o, b1, b2, b3⟩ := body p e s m args below meth c s₁ B hml hP s₁ hh0 (Stand.of_body B)
    exact ⟨t, o, a1, b1, b2, b3⟩
/-! ===== END ===== -/
end
section
/-! names, fields, words of the tables: by program (wip/whole/gnames.py) out of the Statement -/
def WA : List Cond := lw_tbl.filter goodWord
theorem inA1 {w : Cond} (i : Nat) (h : tables_1_1[i]? = some w) (g : goodWord w = true) : w ∈ WA := List.mem_filter.mpr ⟨List.mem_append_right _ (List.mem_append_left _ (List.mem_of_getElem? h)), g⟩
theorem inA2 {w : Cond} (i : Nat) (h : tables_1_2[i]? = some w) (g : goodWord w = true) : w ∈ WA := List.mem_filter.mpr ⟨List.mem_append_right _ (List.mem_append_right _ (List.mem_of_getElem? h)), g⟩
theorem inA0 {w : Cond} (i : Nat) (h : (k2_sels lw_privs)[i]? = some w) (g : goodWord w = true) : w ∈ WA := List.mem_filter.mpr ⟨List.mem_append_left _ (List.mem_of_getElem? h), g⟩
def RV : String := "LevelTree$Level"
def TV : u_T := fun k => match k with
  | 0 => ("LevelTree$Level", "words", "[I", true)
  | 1 => ("LevelTree$Level", "ranks", "[I", true)
  | 2 => ("LevelTree$Level", "length", "I", false)
  | _ => ("LevelTree$Level", "zeros", "I", false)
def tyV : Nat → FieldType := fun k => match k with
  | 0 => .array .int
  | 1 => .array .int
  | 2 => .int
  | _ => .int
theorem nmV : ∀ a, a < 4 → ∀ b, b < 4 → a ≠ b → (TV a).2.1 ≠ (TV b).2.1 := by decide +kernel
theorem tyV_ok : ∀ k, k < 4 → parseFieldDescriptor (TV k).2.2.1 = some (tyV k) := by decide +kernel
theorem inV : ∀ w ∈ u_ws RV TV 4, w ∈ WA := fun w h => List.mem_filter.mpr ⟨(by decide +kernel : ∀ w ∈ u_ws RV TV 4, w ∈ lw_tbl) w h, (by decide +kernel : ∀ w ∈ u_ws RV TV 4, goodWord w = true) w h⟩
def RT : String := "LevelTree$Tree"
def TT : u_T := fun k => match k with
  | 0 => ("LevelTree$Tree", "levels", "[LLevelTree$Level;", true)
  | 1 => ("LevelTree$Tree", "order", "[I", true)
  | 2 => ("LevelTree$Tree", "aside", "[I", true)
  | _ => ("LevelTree$Tree", "length", "I", false)
def tyT : Nat → FieldType := fun k => match k with
  | 0 => .array (.object "LevelTree$Level")
  | 1 => .array .int
  | 2 => .array .int
  | _ => .int
theorem nmT : ∀ a, a < 4 → ∀ b, b < 4 → a ≠ b → (TT a).2.1 ≠ (TT b).2.1 := by decide +kernel
theorem tyT_ok : ∀ k, k < 4 → parseFieldDescriptor (TT k).2.2.1 = some (tyT k) := by decide +kernel
theorem inT : ∀ w ∈ u_ws RT TT 4, w ∈ WA := fun w h => List.mem_filter.mpr ⟨(by decide +kernel : ∀ w ∈ u_ws RT TT 4, w ∈ lw_tbl) w h, (by decide +kernel : ∀ w ∈ u_ws RT TT 4, goodWord w = true) w h⟩
def RL : String := "LevelTree"
def TL : u_T := fun k => match k with
  | 0 => ("LevelTree", "row", "[I", true)
  | 1 => ("LevelTree", "tree", "LLevelTree$Tree;", true)
  | 2 => ("LevelTree", "groups", "[I", true)
  | 3 => ("LevelTree", "rowLength", "I", false)
  | _ => ("LevelTree", "groupCount", "I", false)
def tyL : Nat → FieldType := fun k => match k with
  | 0 => .array .int
  | 1 => .object "LevelTree$Tree"
  | 2 => .array .int
  | 3 => .int
  | _ => .int
theorem nmL : ∀ a, a < 5 → ∀ b, b < 5 → a ≠ b → (TL a).2.1 ≠ (TL b).2.1 := by decide +kernel
theorem tyL_ok : ∀ k, k < 5 → parseFieldDescriptor (TL k).2.2.1 = some (tyL k) := by decide +kernel
theorem inL : ∀ w ∈ u_ws RL TL 5, w ∈ WA := fun w h => List.mem_filter.mpr ⟨(by decide +kernel : ∀ w ∈ u_ws RL TL 5, w ∈ lw_tbl) w h, (by decide +kernel : ∀ w ∈ u_ws RL TL 5, goodWord w = true) w h⟩
def RM : String := "LevelTreeModel"
def TM : u_T := fun k => match k with
  | 0 => ("LevelTreeModel", "thrown", "I", false)
  | 1 => ("LevelTreeModel", "row", "[I", true)
  | 2 => ("LevelTreeModel", "tree", "[I", true)
  | 3 => ("LevelTreeModel", "counts", "[I", true)
  | 4 => ("LevelTreeModel", "told", "[I", true)
  | 5 => ("LevelTreeModel", "toldOften", "[I", true)
  | 6 => ("LevelTreeModel", "size", "I", false)
  | 7 => ("LevelTreeModel", "built", "I", false)
  | _ => ("LevelTreeModel", "tolds", "I", false)
def tyM : Nat → FieldType := fun k => match k with
  | 0 => .int
  | 1 => .array .int
  | 2 => .array .int
  | 3 => .array .int
  | 4 => .array .int
  | 5 => .array .int
  | 6 => .int
  | 7 => .int
  | _ => .int
theorem nmM : ∀ a, a < 9 → ∀ b, b < 9 → a ≠ b → (TM a).2.1 ≠ (TM b).2.1 := by decide +kernel
theorem tyM_ok : ∀ k, k < 9 → parseFieldDescriptor (TM k).2.2.1 = some (tyM k) := by decide +kernel
theorem inM : ∀ w ∈ u_ws RM TM 9, w ∈ WA := fun w h => List.mem_filter.mpr ⟨(by decide +kernel : ∀ w ∈ u_ws RM TM 9, w ∈ lw_tbl) w h, (by decide +kernel : ∀ w ∈ u_ws RM TM 9, goodWord w = true) w h⟩
def RW : String := "LevelTreeLaw"
def RJ : String := "java/lang/Integer"
def RF : String := "java/util/Arrays"
abbrev CLS : List vw_C := [(RV, TV, 4), (RT, TT, 4), (RL, TL, 5), (RM, TM, 9)]
abbrev bL_init : ByteArray := prog_1_method_1_code
def yL_init : MethodName := ⟨RL, "<init>", "()V"⟩
abbrev bT_init : ByteArray := prog_3_method_1_code
def yT_init : MethodName := ⟨RT, "<init>", "()V"⟩
abbrev bV_init : ByteArray := prog_2_method_1_code
def yV_init : MethodName := ⟨RV, "<init>", "()V"⟩
abbrev bL_build : ByteArray := prog_1_method_4_code
def yL_build : MethodName := ⟨RL, "build", "()I"⟩
abbrev bT_fill : ByteArray := prog_3_method_3_code
def yT_fill : MethodName := ⟨RT, "fill", "([II)V"⟩
abbrev bT_shiftOf : ByteArray := prog_3_method_11_code
def yT_shiftOf : MethodName := ⟨RT, "shiftOf", "(I)I"⟩
abbrev bV_fill : ByteArray := prog_2_method_2_code
def yV_fill : MethodName := ⟨RV, "fill", "([III)V"⟩
abbrev bF_fill : ByteArray := prog_14_method_103_code
def yF_fill : MethodName := ⟨RF, "fill", "([II)V"⟩
abbrev bJ_bitCount : ByteArray := prog_9_method_49_code
def yJ_bitCount : MethodName := ⟨RJ, "bitCount", "(I)I"⟩
abbrev bT_putZerosInFront : ByteArray := prog_3_method_4_code
def yT_putZerosInFront : MethodName := ⟨RT, "putZerosInFront", "(I)V"⟩
abbrev bT_size : ByteArray := prog_3_method_2_code
def yT_size : MethodName := ⟨RT, "size", "()I"⟩
abbrev bL_count : ByteArray := prog_1_method_14_code
def yL_count : MethodName := ⟨RL, "count", "(I)I"⟩
abbrev bW_add : ByteArray := method_3_code
def yW_add : MethodName := ⟨RW, "add", "(LLevelTree;III[J)I"⟩
abbrev bL_add : ByteArray := prog_1_method_2_code
def yL_add : MethodName := ⟨RL, "add", "(III)I"⟩
abbrev bW_cut : ByteArray := method_4_code
def yW_cut : MethodName := ⟨RW, "cut", "(LLevelTree;I[J)I"⟩
abbrev bL_cut : ByteArray := prog_1_method_3_code
def yL_cut : MethodName := ⟨RL, "cut", "(I)I"⟩
abbrev bW_at : ByteArray := method_5_code
def yW_at : MethodName := ⟨RW, "at", "(LLevelTree;I[J)I"⟩
abbrev bL_at : ByteArray := prog_1_method_5_code
def yL_at : MethodName := ⟨RL, "at", "(I)I"⟩
abbrev bT_numberAt : ByteArray := prog_3_method_5_code
def yT_numberAt : MethodName := ⟨RT, "numberAt", "(I)I"⟩
abbrev bV_bitAt : ByteArray := prog_2_method_3_code
def yV_bitAt : MethodName := ⟨RV, "bitAt", "(I)I"⟩
abbrev bV_down : ByteArray := prog_2_method_4_code
def yV_down : MethodName := ⟨RV, "down", "(II)I"⟩
abbrev bV_onesBefore : ByteArray := prog_2_method_6_code
def yV_onesBefore : MethodName := ⟨RV, "onesBefore", "(I)I"⟩
abbrev bW_often : ByteArray := method_6_code
def yW_often : MethodName := ⟨RW, "often", "(LLevelTree;III[J)I"⟩
abbrev bL_often : ByteArray := prog_1_method_6_code
def yL_often : MethodName := ⟨RL, "often", "(III)I"⟩
abbrev bL_checkNumber : ByteArray := prog_1_method_15_code
def yL_checkNumber : MethodName := ⟨RL, "checkNumber", "(II)V"⟩
abbrev bL_checkPart : ByteArray := prog_1_method_16_code
def yL_checkPart : MethodName := ⟨RL, "checkPart", "(II)V"⟩
abbrev bT_timesOf : ByteArray := prog_3_method_6_code
def yT_timesOf : MethodName := ⟨RT, "timesOf", "(III)I"⟩
abbrev bT_bottomOf : ByteArray := prog_3_method_7_code
def yT_bottomOf : MethodName := ⟨RT, "bottomOf", "(II)I"⟩
abbrev bW_place : ByteArray := method_7_code
def yW_place : MethodName := ⟨RW, "place", "(LLevelTree;II[J)I"⟩
abbrev bL_place : ByteArray := prog_1_method_7_code
def yL_place : MethodName := ⟨RL, "place", "(II)I"⟩
abbrev bT_placeOf : ByteArray := prog_3_method_8_code
def yT_placeOf : MethodName := ⟨RT, "placeOf", "(II)I"⟩
abbrev bV_up : ByteArray := prog_2_method_5_code
def yV_up : MethodName := ⟨RV, "up", "(II)I"⟩
abbrev bW_least : ByteArray := method_8_code
def yW_least : MethodName := ⟨RW, "least", "(LLevelTree;III[J)I"⟩
abbrev bL_least : ByteArray := prog_1_method_8_code
def yL_least : MethodName := ⟨RL, "least", "(III)I"⟩
abbrev bT_groupOf : ByteArray := prog_3_method_9_code
def yT_groupOf : MethodName := ⟨RT, "groupOf", "(III)I"⟩
abbrev bL_numberOf : ByteArray := prog_1_method_17_code
def yL_numberOf : MethodName := ⟨RL, "numberOf", "(I)I"⟩
abbrev bW_below : ByteArray := method_9_code
def yW_below : MethodName := ⟨RW, "below", "(LLevelTree;III[J)I"⟩
abbrev bL_below : ByteArray := prog_1_method_9_code
def yL_below : MethodName := ⟨RL, "below", "(III)I"⟩
abbrev bT_countBelow : ByteArray := prog_3_method_10_code
def yT_countBelow : MethodName := ⟨RT, "countBelow", "(III)I"⟩
abbrev bW_different : ByteArray := method_10_code
def yW_different : MethodName := ⟨RW, "different", "(LLevelTree;II[J)I"⟩
abbrev bL_different : ByteArray := prog_1_method_10_code
def yL_different : MethodName := ⟨RL, "different", "(II)I"⟩
abbrev bL_timesIn : ByteArray := prog_1_method_18_code
def yL_timesIn : MethodName := ⟨RL, "timesIn", "(I)I"⟩
abbrev bW_number : ByteArray := method_11_code
def yW_number : MethodName := ⟨RW, "number", "(LLevelTree;I[J)I"⟩
abbrev bL_number : ByteArray := prog_1_method_11_code
def yL_number : MethodName := ⟨RL, "number", "(I)I"⟩
abbrev bW_before : ByteArray := method_12_code
def yW_before : MethodName := ⟨RW, "before", "(LLevelTree;III[J)I"⟩
abbrev bL_before : ByteArray := prog_1_method_12_code
def yL_before : MethodName := ⟨RL, "before", "(III)I"⟩
abbrev bW_most : ByteArray := method_13_code
def yW_most : MethodName := ⟨RW, "most", "(LLevelTree;II[J)I"⟩
abbrev bL_most : ByteArray := prog_1_method_13_code
def yL_most : MethodName := ⟨RL, "most", "(II)I"⟩
abbrev bM_init : ByteArray := prog_5_method_1_code
def yM_init : MethodName := ⟨RM, "<init>", "()V"⟩
abbrev bM_thrown : ByteArray := prog_5_method_2_code
def yM_thrown : MethodName := ⟨RM, "thrown", "()I"⟩
abbrev bM_add : ByteArray := prog_5_method_4_code
def yM_add : MethodName := ⟨RM, "add", "(III)I"⟩
abbrev bM_refuse : ByteArray := prog_5_method_3_code
def yM_refuse : MethodName := ⟨RM, "refuse", "(IZ)Z"⟩
abbrev bM_cut : ByteArray := prog_5_method_5_code
def yM_cut : MethodName := ⟨RM, "cut", "(I)I"⟩
abbrev bM_build : ByteArray := prog_5_method_6_code
def yM_build : MethodName := ⟨RM, "build", "()I"⟩
abbrev bM_at : ByteArray := prog_5_method_7_code
def yM_at : MethodName := ⟨RM, "at", "(I)I"⟩
abbrev bM_often : ByteArray := prog_5_method_9_code
def yM_often : MethodName := ⟨RM, "often", "(III)I"⟩
abbrev bM_noPart : ByteArray := prog_5_method_8_code
def yM_noPart : MethodName := ⟨RM, "noPart", "(IIZ)Z"⟩
abbrev bM_place : ByteArray := prog_5_method_10_code
def yM_place : MethodName := ⟨RM, "place", "(II)I"⟩
abbrev bM_least : ByteArray := prog_5_method_12_code
def yM_least : MethodName := ⟨RM, "least", "(III)I"⟩
abbrev bM_counted : ByteArray := prog_5_method_11_code
def yM_counted : MethodName := ⟨RM, "counted", "(II)V"⟩
abbrev bM_below : ByteArray := prog_5_method_13_code
def yM_below : MethodName := ⟨RM, "below", "(III)I"⟩
abbrev bM_different : ByteArray := prog_5_method_14_code
def yM_different : MethodName := ⟨RM, "different", "(II)I"⟩
abbrev bM_number : ByteArray := prog_5_method_15_code
def yM_number : MethodName := ⟨RM, "number", "(I)I"⟩
abbrev bM_before : ByteArray := prog_5_method_16_code
def yM_before : MethodName := ⟨RM, "before", "(III)I"⟩
abbrev bM_most : ByteArray := prog_5_method_17_code
def yM_most : MethodName := ⟨RM, "most", "(II)I"⟩
abbrev bM_count : ByteArray := prog_5_method_18_code
def yM_count : MethodName := ⟨RM, "count", "(I)I"⟩
abbrev bW_law : ByteArray := code
def yW_law : MethodName := ⟨RW, "law", "([I)Z"⟩
theorem mn_W : (.initialized RW : Cond) ∈ WA := inA1 0 rfl rfl
theorem mn_L : (.initialized RL : Cond) ∈ WA := inA1 1 rfl rfl
theorem mn_T : (.initialized RT : Cond) ∈ WA := inA1 2 rfl rfl
theorem mn_V : (.initialized RV : Cond) ∈ WA := inA1 3 rfl rfl
theorem mn_M : (.initialized RM : Cond) ∈ WA := inA1 4 rfl rfl
theorem mn_ise : (.initialized "java/lang/IllegalStateException" : Cond) ∈ WA := inA1 8 rfl rfl
theorem mn_iae : (.initialized "java/lang/IllegalArgumentException" : Cond) ∈ WA := inA1 9 rfl rfl
theorem mn_sys : (.initialized "java/lang/System" : Cond) ∈ WA := inA1 10 rfl rfl
theorem mn_F : (.initialized RF : Cond) ∈ WA := inA1 11 rfl rfl
theorem mn_J : (.initialized RJ : Cond) ∈ WA := inA1 12 rfl rfl
theorem mn_nse : (.initialized "java/util/NoSuchElementException" : Cond) ∈ WA := inA1 13 rfl rfl
theorem mcW_8 : (.classLink RW 8 RL : Cond) ∈ WA := inA1 14 rfl rfl
theorem mo_L : (.instantiable RL 5 : Cond) ∈ WA := inA1 15 rfl rfl
theorem mlW_51 : (.methodLink RW 51 yL_init : Cond) ∈ WA := inA1 16 rfl rfl
theorem miL_init : (.instanceMethod yL_init : Cond) ∈ WA := inA1 17 rfl rfl
theorem mkL_init : (.code yL_init bL_init 1 none : Cond) ∈ WA := inA1 18 rfl rfl
theorem mlL_3 : (.methodLink RL 3 objectInit : Cond) ∈ WA := inA1 19 rfl rfl
theorem miobjectInit : (.instanceMethod objectInit : Cond) ∈ WA := inA1 20 rfl rfl
theorem mkobj : (.code objectInit ⟨#[0xb1]⟩ 1 none : Cond) ∈ WA := inA1 21 rfl rfl
theorem mcL_13 : (.classLink RL 13 RT : Cond) ∈ WA := inA1 22 rfl rfl
theorem mo_T : (.instantiable RT 4 : Cond) ∈ WA := inA1 23 rfl rfl
theorem mlL_15 : (.methodLink RL 15 yT_init : Cond) ∈ WA := inA1 24 rfl rfl
theorem miT_init : (.instanceMethod yT_init : Cond) ∈ WA := inA1 25 rfl rfl
theorem mkT_init : (.code yT_init bT_init 2 none : Cond) ∈ WA := inA1 26 rfl rfl
theorem mlT_3 : (.methodLink RT 3 objectInit : Cond) ∈ WA := inA1 27 rfl rfl
theorem mcT_9 : (.classLink RT 9 RV : Cond) ∈ WA := inA1 28 rfl rfl
theorem mo_V : (.instantiable RV 4 : Cond) ∈ WA := inA1 30 rfl rfl
theorem mlT_24 : (.methodLink RT 24 yV_init : Cond) ∈ WA := inA1 31 rfl rfl
theorem miV_init : (.instanceMethod yV_init : Cond) ∈ WA := inA1 32 rfl rfl
theorem mkV_init : (.code yV_init bV_init 1 none : Cond) ∈ WA := inA1 33 rfl rfl
theorem mlV_3 : (.methodLink RV 3 objectInit : Cond) ∈ WA := inA1 34 rfl rfl
theorem mfV_9 : (.fieldLink RV 9 "LevelTree$Level" "words" "[I" : Cond) ∈ WA := inA1 35 rfl rfl
theorem mfV_15 : (.fieldLink RV 15 "LevelTree$Level" "ranks" "[I" : Cond) ∈ WA := inA1 36 rfl rfl
theorem mfV_18 : (.fieldLink RV 18 "LevelTree$Level" "length" "I" : Cond) ∈ WA := inA1 37 rfl rfl
theorem mfV_22 : (.fieldLink RV 22 "LevelTree$Level" "zeros" "I" : Cond) ∈ WA := inA1 38 rfl rfl
theorem ma_int : (.arrayClass .int : Cond) ∈ WA := inA1 48 rfl rfl
theorem mfT_11 : (.fieldLink RT 11 "LevelTree$Tree" "levels" "[LLevelTree$Level;" : Cond) ∈ WA := inA1 49 rfl rfl
theorem mfT_17 : (.fieldLink RT 17 "LevelTree$Tree" "order" "[I" : Cond) ∈ WA := inA1 50 rfl rfl
theorem mfT_21 : (.fieldLink RT 21 "LevelTree$Tree" "aside" "[I" : Cond) ∈ WA := inA1 51 rfl rfl
theorem mfT_25 : (.fieldLink RT 25 "LevelTree$Tree" "length" "I" : Cond) ∈ WA := inA1 52 rfl rfl
theorem mfL_9 : (.fieldLink RL 9 "LevelTree" "row" "[I" : Cond) ∈ WA := inA1 62 rfl rfl
theorem mfL_16 : (.fieldLink RL 16 "LevelTree" "tree" "LLevelTree$Tree;" : Cond) ∈ WA := inA1 63 rfl rfl
theorem mfL_20 : (.fieldLink RL 20 "LevelTree" "groups" "[I" : Cond) ∈ WA := inA1 64 rfl rfl
theorem mfL_23 : (.fieldLink RL 23 "LevelTree" "rowLength" "I" : Cond) ∈ WA := inA1 65 rfl rfl
theorem mfL_27 : (.fieldLink RL 27 "LevelTree" "groupCount" "I" : Cond) ∈ WA := inA1 66 rfl rfl
theorem mlW_69 : (.methodLink RW 69 yL_build : Cond) ∈ WA := inA1 78 rfl rfl
theorem miL_build : (.instanceMethod yL_build : Cond) ∈ WA := inA1 79 rfl rfl
theorem msL_build : (.selects RL yL_build yL_build : Cond) ∈ WA := inA1 80 rfl rfl
theorem mkL_build : (.code yL_build bL_build 1 (some .int) : Cond) ∈ WA := inA1 81 rfl rfl
theorem mlL_42 : (.methodLink RL 42 yT_fill : Cond) ∈ WA := inA1 82 rfl rfl
theorem miT_fill : (.instanceMethod yT_fill : Cond) ∈ WA := inA1 83 rfl rfl
theorem msT_fill : (.selects RT yT_fill yT_fill : Cond) ∈ WA := inA1 84 rfl rfl
theorem mkT_fill : (.code yT_fill bT_fill 4 none : Cond) ∈ WA := inA1 85 rfl rfl
theorem mlT_29 : (.methodLink RT 29 arraycopyName : Cond) ∈ WA := inA1 86 rfl rfl
theorem mtarraycopyName : (.static arraycopyName : Cond) ∈ WA := inA1 87 rfl rfl
theorem mnatarraycopyName : (.native arraycopyName : Cond) ∈ WA := inA1 88 rfl rfl
theorem mlT_35 : (.methodLink RT 35 yT_shiftOf : Cond) ∈ WA := inA1 89 rfl rfl
theorem mtT_shiftOf : (.static yT_shiftOf : Cond) ∈ WA := inA1 90 rfl rfl
theorem mkT_shiftOf : (.code yT_shiftOf bT_shiftOf 1 (some .int) : Cond) ∈ WA := inA1 91 rfl rfl
theorem mlT_39 : (.methodLink RT 39 yV_fill : Cond) ∈ WA := inA1 92 rfl rfl
theorem miV_fill : (.instanceMethod yV_fill : Cond) ∈ WA := inA1 93 rfl rfl
theorem msV_fill : (.selects RV yV_fill yV_fill : Cond) ∈ WA := inA1 94 rfl rfl
theorem mkV_fill : (.code yV_fill bV_fill 6 none : Cond) ∈ WA := inA1 95 rfl rfl
theorem mlV_25 : (.methodLink RV 25 yF_fill : Cond) ∈ WA := inA1 96 rfl rfl
theorem mtF_fill : (.static yF_fill : Cond) ∈ WA := inA1 97 rfl rfl
theorem mkF_fill : (.code yF_fill bF_fill 4 none : Cond) ∈ WA := inA1 98 rfl rfl
theorem mlV_31 : (.methodLink RV 31 yJ_bitCount : Cond) ∈ WA := inA1 99 rfl rfl
theorem mtJ_bitCount : (.static yJ_bitCount : Cond) ∈ WA := inA1 100 rfl rfl
theorem mkJ_bitCount : (.code yJ_bitCount bJ_bitCount 1 (some .int) : Cond) ∈ WA := inA1 101 rfl rfl
theorem mq_265 : (.constant RJ 265 1431655765 : Cond) ∈ WA := inA1 102 rfl rfl
theorem mq_266 : (.constant RJ 266 858993459 : Cond) ∈ WA := inA1 103 rfl rfl
theorem mq_267 : (.constant RJ 267 252645135 : Cond) ∈ WA := inA1 104 rfl rfl
theorem mlT_43 : (.methodLink RT 43 yT_putZerosInFront : Cond) ∈ WA := inA1 105 rfl rfl
theorem miT_putZerosInFront : (.instanceMethod yT_putZerosInFront : Cond) ∈ WA := inA1 107 rfl rfl
theorem mkT_putZerosInFront : (.code yT_putZerosInFront bT_putZerosInFront 6 none : Cond) ∈ WA := inA1 108 rfl rfl
theorem mlL_46 : (.methodLink RL 46 yT_size : Cond) ∈ WA := inA1 109 rfl rfl
theorem miT_size : (.instanceMethod yT_size : Cond) ∈ WA := inA1 110 rfl rfl
theorem msT_size : (.selects RT yT_size yT_size : Cond) ∈ WA := inA1 111 rfl rfl
theorem mkT_size : (.code yT_size bT_size 1 (some .int) : Cond) ∈ WA := inA1 112 rfl rfl
theorem mlW_101 : (.methodLink RW 101 yL_count : Cond) ∈ WA := inA1 113 rfl rfl
theorem miL_count : (.instanceMethod yL_count : Cond) ∈ WA := inA1 114 rfl rfl
theorem msL_count : (.selects RL yL_count yL_count : Cond) ∈ WA := inA1 115 rfl rfl
theorem mkL_count : (.code yL_count bL_count 2 (some .int) : Cond) ∈ WA := inA1 116 rfl rfl
theorem mlW_55 : (.methodLink RW 55 yW_add : Cond) ∈ WA := inA1 117 rfl rfl
theorem mtW_add : (.static yW_add : Cond) ∈ WA := inA1 118 rfl rfl
theorem mkW_add : (.codeWith yW_add bW_add 6 (some .int) [(0, 12, 15, 13)] : Cond) ∈ WA := inA1 119 rfl rfl
theorem mcW_13 : (.classLink RW 13 "java/lang/IllegalStateException" : Cond) ∈ WA := inA1 120 rfl rfl
theorem mlW_7 : (.methodLink RW 7 yL_add : Cond) ∈ WA := inA1 121 rfl rfl
theorem miL_add : (.instanceMethod yL_add : Cond) ∈ WA := inA1 122 rfl rfl
theorem msL_add : (.selects RL yL_add yL_add : Cond) ∈ WA := inA1 123 rfl rfl
theorem mkL_add : (.code yL_add bL_add 4 (some .int) : Cond) ∈ WA := inA1 124 rfl rfl
theorem mcL_30 : (.classLink RL 30 "java/lang/IllegalStateException" : Cond) ∈ WA := inA1 125 rfl rfl
theorem mlW_65 : (.methodLink RW 65 yW_cut : Cond) ∈ WA := inA1 193 rfl rfl
theorem mtW_cut : (.static yW_cut : Cond) ∈ WA := inA1 194 rfl rfl
theorem mkW_cut : (.codeWith yW_cut bW_cut 4 (some .int) [(0, 9, 12, 19)] : Cond) ∈ WA := inA1 195 rfl rfl
theorem mcW_19 : (.classLink RW 19 "java/lang/IllegalArgumentException" : Cond) ∈ WA := inA1 196 rfl rfl
theorem mlW_15 : (.methodLink RW 15 yL_cut : Cond) ∈ WA := inA1 197 rfl rfl
theorem miL_cut : (.instanceMethod yL_cut : Cond) ∈ WA := inA1 198 rfl rfl
theorem msL_cut : (.selects RL yL_cut yL_cut : Cond) ∈ WA := inA1 199 rfl rfl
theorem mkL_cut : (.code yL_cut bL_cut 2 (some .int) : Cond) ∈ WA := inA1 200 rfl rfl
theorem mcL_37 : (.classLink RL 37 "java/lang/IllegalArgumentException" : Cond) ∈ WA := inA1 201 rfl rfl
theorem mlW_73 : (.methodLink RW 73 yW_at : Cond) ∈ WA := inA1 217 rfl rfl
theorem mtW_at : (.static yW_at : Cond) ∈ WA := inA1 218 rfl rfl
theorem mkW_at : (.codeWith yW_at bW_at 4 (some .int) [(0, 9, 12, 24)] : Cond) ∈ WA := inA1 219 rfl rfl
theorem mcW_24 : (.classLink RW 24 "java/util/NoSuchElementException" : Cond) ∈ WA := inA1 220 rfl rfl
theorem mlW_21 : (.methodLink RW 21 yL_at : Cond) ∈ WA := inA1 221 rfl rfl
theorem miL_at : (.instanceMethod yL_at : Cond) ∈ WA := inA1 222 rfl rfl
theorem msL_at : (.selects RL yL_at yL_at : Cond) ∈ WA := inA1 223 rfl rfl
theorem mkL_at : (.code yL_at bL_at 2 (some .int) : Cond) ∈ WA := inA1 224 rfl rfl
theorem mcL_50 : (.classLink RL 50 "java/util/NoSuchElementException" : Cond) ∈ WA := inA1 225 rfl rfl
theorem mlL_55 : (.methodLink RL 55 yT_numberAt : Cond) ∈ WA := inA2 1 rfl rfl
theorem miT_numberAt : (.instanceMethod yT_numberAt : Cond) ∈ WA := inA2 2 rfl rfl
theorem msT_numberAt : (.selects RT yT_numberAt yT_numberAt : Cond) ∈ WA := inA2 3 rfl rfl
theorem mkT_numberAt : (.code yT_numberAt bT_numberAt 6 (some .int) : Cond) ∈ WA := inA2 4 rfl rfl
theorem mlT_47 : (.methodLink RT 47 yV_bitAt : Cond) ∈ WA := inA2 5 rfl rfl
theorem miV_bitAt : (.instanceMethod yV_bitAt : Cond) ∈ WA := inA2 6 rfl rfl
theorem msV_bitAt : (.selects RV yV_bitAt yV_bitAt : Cond) ∈ WA := inA2 7 rfl rfl
theorem mkV_bitAt : (.code yV_bitAt bV_bitAt 2 (some .int) : Cond) ∈ WA := inA2 8 rfl rfl
theorem mlT_50 : (.methodLink RT 50 yV_down : Cond) ∈ WA := inA2 9 rfl rfl
theorem miV_down : (.instanceMethod yV_down : Cond) ∈ WA := inA2 10 rfl rfl
theorem msV_down : (.selects RV yV_down yV_down : Cond) ∈ WA := inA2 11 rfl rfl
theorem mkV_down : (.code yV_down bV_down 3 (some .int) : Cond) ∈ WA := inA2 12 rfl rfl
theorem mlV_37 : (.methodLink RV 37 yV_onesBefore : Cond) ∈ WA := inA2 13 rfl rfl
theorem miV_onesBefore : (.instanceMethod yV_onesBefore : Cond) ∈ WA := inA2 15 rfl rfl
theorem mkV_onesBefore : (.code yV_onesBefore bV_onesBefore 4 (some .int) : Cond) ∈ WA := inA2 16 rfl rfl
theorem mlW_76 : (.methodLink RW 76 yW_often : Cond) ∈ WA := inA2 17 rfl rfl
theorem mtW_often : (.static yW_often : Cond) ∈ WA := inA2 18 rfl rfl
theorem mkW_often : (.codeWith yW_often bW_often 6 (some .int) [(0, 12, 15, 19)] : Cond) ∈ WA := inA2 19 rfl rfl
theorem mlW_26 : (.methodLink RW 26 yL_often : Cond) ∈ WA := inA2 20 rfl rfl
theorem miL_often : (.instanceMethod yL_often : Cond) ∈ WA := inA2 21 rfl rfl
theorem msL_often : (.selects RL yL_often yL_often : Cond) ∈ WA := inA2 22 rfl rfl
theorem mkL_often : (.code yL_often bL_often 4 (some .int) : Cond) ∈ WA := inA2 23 rfl rfl
theorem mlL_59 : (.methodLink RL 59 yL_checkNumber : Cond) ∈ WA := inA2 24 rfl rfl
theorem mtL_checkNumber : (.static yL_checkNumber : Cond) ∈ WA := inA2 25 rfl rfl
theorem mkL_checkNumber : (.code yL_checkNumber bL_checkNumber 2 none : Cond) ∈ WA := inA2 26 rfl rfl
theorem mlL_63 : (.methodLink RL 63 yL_checkPart : Cond) ∈ WA := inA2 28 rfl rfl
theorem miL_checkPart : (.instanceMethod yL_checkPart : Cond) ∈ WA := inA2 30 rfl rfl
theorem mkL_checkPart : (.code yL_checkPart bL_checkPart 3 none : Cond) ∈ WA := inA2 31 rfl rfl
theorem mlL_66 : (.methodLink RL 66 yT_timesOf : Cond) ∈ WA := inA2 33 rfl rfl
theorem miT_timesOf : (.instanceMethod yT_timesOf : Cond) ∈ WA := inA2 34 rfl rfl
theorem msT_timesOf : (.selects RT yT_timesOf yT_timesOf : Cond) ∈ WA := inA2 35 rfl rfl
theorem mkT_timesOf : (.code yT_timesOf bT_timesOf 4 (some .int) : Cond) ∈ WA := inA2 36 rfl rfl
theorem mlT_54 : (.methodLink RT 54 yT_bottomOf : Cond) ∈ WA := inA2 37 rfl rfl
theorem miT_bottomOf : (.instanceMethod yT_bottomOf : Cond) ∈ WA := inA2 39 rfl rfl
theorem mkT_bottomOf : (.code yT_bottomOf bT_bottomOf 5 (some .int) : Cond) ∈ WA := inA2 40 rfl rfl
theorem mlW_79 : (.methodLink RW 79 yW_place : Cond) ∈ WA := inA2 41 rfl rfl
theorem mtW_place : (.static yW_place : Cond) ∈ WA := inA2 42 rfl rfl
theorem mkW_place : (.codeWith yW_place bW_place 5 (some .int) [(0, 10, 13, 19), (0, 10, 17, 24)] : Cond) ∈ WA := inA2 43 rfl rfl
theorem mlW_29 : (.methodLink RW 29 yL_place : Cond) ∈ WA := inA2 44 rfl rfl
theorem miL_place : (.instanceMethod yL_place : Cond) ∈ WA := inA2 45 rfl rfl
theorem msL_place : (.selects RL yL_place yL_place : Cond) ∈ WA := inA2 46 rfl rfl
theorem mkL_place : (.code yL_place bL_place 3 (some .int) : Cond) ∈ WA := inA2 47 rfl rfl
theorem mlL_72 : (.methodLink RL 72 yT_placeOf : Cond) ∈ WA := inA2 49 rfl rfl
theorem miT_placeOf : (.instanceMethod yT_placeOf : Cond) ∈ WA := inA2 50 rfl rfl
theorem msT_placeOf : (.selects RT yT_placeOf yT_placeOf : Cond) ∈ WA := inA2 51 rfl rfl
theorem mkT_placeOf : (.code yT_placeOf bT_placeOf 5 (some .int) : Cond) ∈ WA := inA2 52 rfl rfl
theorem mlT_57 : (.methodLink RT 57 yV_up : Cond) ∈ WA := inA2 53 rfl rfl
theorem miV_up : (.instanceMethod yV_up : Cond) ∈ WA := inA2 54 rfl rfl
theorem msV_up : (.selects RV yV_up yV_up : Cond) ∈ WA := inA2 55 rfl rfl
theorem mkV_up : (.code yV_up bV_up 5 (some .int) : Cond) ∈ WA := inA2 56 rfl rfl
theorem mlV_40 : (.methodLink RV 40 yV_down : Cond) ∈ WA := inA2 57 rfl rfl
theorem mlW_83 : (.methodLink RW 83 yW_least : Cond) ∈ WA := inA2 58 rfl rfl
theorem mtW_least : (.static yW_least : Cond) ∈ WA := inA2 59 rfl rfl
theorem mkW_least : (.codeWith yW_least bW_least 6 (some .int) [(0, 12, 15, 19), (0, 12, 19, 24)] : Cond) ∈ WA := inA2 60 rfl rfl
theorem mlW_33 : (.methodLink RW 33 yL_least : Cond) ∈ WA := inA2 61 rfl rfl
theorem miL_least : (.instanceMethod yL_least : Cond) ∈ WA := inA2 62 rfl rfl
theorem msL_least : (.selects RL yL_least yL_least : Cond) ∈ WA := inA2 63 rfl rfl
theorem mkL_least : (.code yL_least bL_least 4 (some .int) : Cond) ∈ WA := inA2 64 rfl rfl
theorem mlL_78 : (.methodLink RL 78 yT_groupOf : Cond) ∈ WA := inA2 66 rfl rfl
theorem miT_groupOf : (.instanceMethod yT_groupOf : Cond) ∈ WA := inA2 67 rfl rfl
theorem msT_groupOf : (.selects RT yT_groupOf yT_groupOf : Cond) ∈ WA := inA2 68 rfl rfl
theorem mkT_groupOf : (.code yT_groupOf bT_groupOf 12 (some .int) : Cond) ∈ WA := inA2 69 rfl rfl
theorem mlL_81 : (.methodLink RL 81 yL_numberOf : Cond) ∈ WA := inA2 70 rfl rfl
theorem mtL_numberOf : (.static yL_numberOf : Cond) ∈ WA := inA2 71 rfl rfl
theorem mkL_numberOf : (.code yL_numberOf bL_numberOf 1 (some .int) : Cond) ∈ WA := inA2 72 rfl rfl
theorem mlW_86 : (.methodLink RW 86 yW_below : Cond) ∈ WA := inA2 73 rfl rfl
theorem mtW_below : (.static yW_below : Cond) ∈ WA := inA2 74 rfl rfl
theorem mkW_below : (.codeWith yW_below bW_below 6 (some .int) [(0, 12, 15, 19)] : Cond) ∈ WA := inA2 75 rfl rfl
theorem mlW_36 : (.methodLink RW 36 yL_below : Cond) ∈ WA := inA2 76 rfl rfl
theorem miL_below : (.instanceMethod yL_below : Cond) ∈ WA := inA2 77 rfl rfl
theorem msL_below : (.selects RL yL_below yL_below : Cond) ∈ WA := inA2 78 rfl rfl
theorem mkL_below : (.code yL_below bL_below 4 (some .int) : Cond) ∈ WA := inA2 79 rfl rfl
theorem mlL_84 : (.methodLink RL 84 yT_countBelow : Cond) ∈ WA := inA2 80 rfl rfl
theorem miT_countBelow : (.instanceMethod yT_countBelow : Cond) ∈ WA := inA2 81 rfl rfl
theorem msT_countBelow : (.selects RT yT_countBelow yT_countBelow : Cond) ∈ WA := inA2 82 rfl rfl
theorem mkT_countBelow : (.code yT_countBelow bT_countBelow 10 (some .int) : Cond) ∈ WA := inA2 83 rfl rfl
theorem mlW_89 : (.methodLink RW 89 yW_different : Cond) ∈ WA := inA2 84 rfl rfl
theorem mtW_different : (.static yW_different : Cond) ∈ WA := inA2 85 rfl rfl
theorem mkW_different : (.codeWith yW_different bW_different 5 (some .int) [(0, 10, 13, 19)] : Cond) ∈ WA := inA2 86 rfl rfl
theorem mlW_39 : (.methodLink RW 39 yL_different : Cond) ∈ WA := inA2 87 rfl rfl
theorem miL_different : (.instanceMethod yL_different : Cond) ∈ WA := inA2 88 rfl rfl
theorem msL_different : (.selects RL yL_different yL_different : Cond) ∈ WA := inA2 89 rfl rfl
theorem mkL_different : (.code yL_different bL_different 5 (some .int) : Cond) ∈ WA := inA2 90 rfl rfl
theorem mlL_87 : (.methodLink RL 87 yL_timesIn : Cond) ∈ WA := inA2 91 rfl rfl
theorem mtL_timesIn : (.static yL_timesIn : Cond) ∈ WA := inA2 92 rfl rfl
theorem mkL_timesIn : (.code yL_timesIn bL_timesIn 1 (some .int) : Cond) ∈ WA := inA2 93 rfl rfl
theorem mlW_92 : (.methodLink RW 92 yW_number : Cond) ∈ WA := inA2 94 rfl rfl
theorem mtW_number : (.static yW_number : Cond) ∈ WA := inA2 95 rfl rfl
theorem mkW_number : (.codeWith yW_number bW_number 4 (some .int) [(0, 9, 12, 24)] : Cond) ∈ WA := inA2 96 rfl rfl
theorem mlW_42 : (.methodLink RW 42 yL_number : Cond) ∈ WA := inA2 97 rfl rfl
theorem miL_number : (.instanceMethod yL_number : Cond) ∈ WA := inA2 98 rfl rfl
theorem msL_number : (.selects RL yL_number yL_number : Cond) ∈ WA := inA2 99 rfl rfl
theorem mkL_number : (.code yL_number bL_number 2 (some .int) : Cond) ∈ WA := inA2 100 rfl rfl
theorem mlW_95 : (.methodLink RW 95 yW_before : Cond) ∈ WA := inA2 102 rfl rfl
theorem mtW_before : (.static yW_before : Cond) ∈ WA := inA2 103 rfl rfl
theorem mkW_before : (.codeWith yW_before bW_before 6 (some .int) [(0, 12, 15, 19)] : Cond) ∈ WA := inA2 104 rfl rfl
theorem mlW_45 : (.methodLink RW 45 yL_before : Cond) ∈ WA := inA2 105 rfl rfl
theorem miL_before : (.instanceMethod yL_before : Cond) ∈ WA := inA2 106 rfl rfl
theorem msL_before : (.selects RL yL_before yL_before : Cond) ∈ WA := inA2 107 rfl rfl
theorem mkL_before : (.code yL_before bL_before 5 (some .int) : Cond) ∈ WA := inA2 108 rfl rfl
theorem mlW_98 : (.methodLink RW 98 yW_most : Cond) ∈ WA := inA2 109 rfl rfl
theorem mtW_most : (.static yW_most : Cond) ∈ WA := inA2 110 rfl rfl
theorem mkW_most : (.codeWith yW_most bW_most 5 (some .int) [(0, 10, 13, 19)] : Cond) ∈ WA := inA2 111 rfl rfl
theorem mlW_48 : (.methodLink RW 48 yL_most : Cond) ∈ WA := inA2 112 rfl rfl
theorem miL_most : (.instanceMethod yL_most : Cond) ∈ WA := inA2 113 rfl rfl
theorem msL_most : (.selects RL yL_most yL_most : Cond) ∈ WA := inA2 114 rfl rfl
theorem mkL_most : (.code yL_most bL_most 9 (some .int) : Cond) ∈ WA := inA2 115 rfl rfl
theorem mcW_52 : (.classLink RW 52 RM : Cond) ∈ WA := inA2 116 rfl rfl
theorem mo_M : (.instantiable RM 9 : Cond) ∈ WA := inA2 117 rfl rfl
theorem mlW_54 : (.methodLink RW 54 yM_init : Cond) ∈ WA := inA2 118 rfl rfl
theorem miM_init : (.instanceMethod yM_init : Cond) ∈ WA := inA2 119 rfl rfl
theorem mkM_init : (.code yM_init bM_init 1 none : Cond) ∈ WA := inA2 120 rfl rfl
theorem mlM_1 : (.methodLink RM 1 objectInit : Cond) ∈ WA := inA2 121 rfl rfl
theorem mfM_7 : (.fieldLink RM 7 "LevelTreeModel" "thrown" "I" : Cond) ∈ WA := inA2 122 rfl rfl
theorem mfM_13 : (.fieldLink RM 13 "LevelTreeModel" "row" "[I" : Cond) ∈ WA := inA2 123 rfl rfl
theorem mfM_17 : (.fieldLink RM 17 "LevelTreeModel" "tree" "[I" : Cond) ∈ WA := inA2 124 rfl rfl
theorem mfM_20 : (.fieldLink RM 20 "LevelTreeModel" "counts" "[I" : Cond) ∈ WA := inA2 125 rfl rfl
theorem mfM_23 : (.fieldLink RM 23 "LevelTreeModel" "told" "[I" : Cond) ∈ WA := inA2 126 rfl rfl
theorem mfM_26 : (.fieldLink RM 26 "LevelTreeModel" "toldOften" "[I" : Cond) ∈ WA := inA2 127 rfl rfl
theorem mfM_29 : (.fieldLink RM 29 "LevelTreeModel" "size" "I" : Cond) ∈ WA := inA2 128 rfl rfl
theorem mfM_32 : (.fieldLink RM 32 "LevelTreeModel" "built" "I" : Cond) ∈ WA := inA2 129 rfl rfl
theorem mfM_35 : (.fieldLink RM 35 "LevelTreeModel" "tolds" "I" : Cond) ∈ WA := inA2 130 rfl rfl
theorem mlW_61 : (.methodLink RW 61 yM_thrown : Cond) ∈ WA := inA2 150 rfl rfl
theorem miM_thrown : (.instanceMethod yM_thrown : Cond) ∈ WA := inA2 151 rfl rfl
theorem msM_thrown : (.selects RM yM_thrown yM_thrown : Cond) ∈ WA := inA2 152 rfl rfl
theorem mkM_thrown : (.code yM_thrown bM_thrown 1 (some .int) : Cond) ∈ WA := inA2 153 rfl rfl
theorem mlW_60 : (.methodLink RW 60 yM_add : Cond) ∈ WA := inA2 154 rfl rfl
theorem miM_add : (.instanceMethod yM_add : Cond) ∈ WA := inA2 155 rfl rfl
theorem msM_add : (.selects RM yM_add yM_add : Cond) ∈ WA := inA2 156 rfl rfl
theorem mkM_add : (.code yM_add bM_add 4 (some .int) : Cond) ∈ WA := inA2 157 rfl rfl
theorem mlM_38 : (.methodLink RM 38 yM_refuse : Cond) ∈ WA := inA2 158 rfl rfl
theorem miM_refuse : (.instanceMethod yM_refuse : Cond) ∈ WA := inA2 160 rfl rfl
theorem mkM_refuse : (.code yM_refuse bM_refuse 3 (some .boolean) : Cond) ∈ WA := inA2 161 rfl rfl
theorem mlW_68 : (.methodLink RW 68 yM_cut : Cond) ∈ WA := inA2 162 rfl rfl
theorem miM_cut : (.instanceMethod yM_cut : Cond) ∈ WA := inA2 163 rfl rfl
theorem msM_cut : (.selects RM yM_cut yM_cut : Cond) ∈ WA := inA2 164 rfl rfl
theorem mkM_cut : (.code yM_cut bM_cut 2 (some .int) : Cond) ∈ WA := inA2 165 rfl rfl
theorem mlW_72 : (.methodLink RW 72 yM_build : Cond) ∈ WA := inA2 166 rfl rfl
theorem miM_build : (.instanceMethod yM_build : Cond) ∈ WA := inA2 167 rfl rfl
theorem msM_build : (.selects RM yM_build yM_build : Cond) ∈ WA := inA2 168 rfl rfl
theorem mkM_build : (.code yM_build bM_build 2 (some .int) : Cond) ∈ WA := inA2 169 rfl rfl
theorem mlW_75 : (.methodLink RW 75 yM_at : Cond) ∈ WA := inA2 170 rfl rfl
theorem miM_at : (.instanceMethod yM_at : Cond) ∈ WA := inA2 171 rfl rfl
theorem msM_at : (.selects RM yM_at yM_at : Cond) ∈ WA := inA2 172 rfl rfl
theorem mkM_at : (.code yM_at bM_at 2 (some .int) : Cond) ∈ WA := inA2 173 rfl rfl
theorem mlW_78 : (.methodLink RW 78 yM_often : Cond) ∈ WA := inA2 174 rfl rfl
theorem miM_often : (.instanceMethod yM_often : Cond) ∈ WA := inA2 175 rfl rfl
theorem msM_often : (.selects RM yM_often yM_often : Cond) ∈ WA := inA2 176 rfl rfl
theorem mkM_often : (.code yM_often bM_often 6 (some .int) : Cond) ∈ WA := inA2 177 rfl rfl
theorem mlM_42 : (.methodLink RM 42 yM_noPart : Cond) ∈ WA := inA2 178 rfl rfl
theorem miM_noPart : (.instanceMethod yM_noPart : Cond) ∈ WA := inA2 180 rfl rfl
theorem mkM_noPart : (.code yM_noPart bM_noPart 4 (some .boolean) : Cond) ∈ WA := inA2 181 rfl rfl
theorem mlW_82 : (.methodLink RW 82 yM_place : Cond) ∈ WA := inA2 182 rfl rfl
theorem miM_place : (.instanceMethod yM_place : Cond) ∈ WA := inA2 183 rfl rfl
theorem msM_place : (.selects RM yM_place yM_place : Cond) ∈ WA := inA2 184 rfl rfl
theorem mkM_place : (.code yM_place bM_place 5 (some .int) : Cond) ∈ WA := inA2 185 rfl rfl
theorem mlW_85 : (.methodLink RW 85 yM_least : Cond) ∈ WA := inA2 186 rfl rfl
theorem miM_least : (.instanceMethod yM_least : Cond) ∈ WA := inA2 187 rfl rfl
theorem msM_least : (.selects RM yM_least yM_least : Cond) ∈ WA := inA2 188 rfl rfl
theorem mkM_least : (.code yM_least bM_least 6 (some .int) : Cond) ∈ WA := inA2 189 rfl rfl
theorem mlM_46 : (.methodLink RM 46 yM_counted : Cond) ∈ WA := inA2 190 rfl rfl
theorem miM_counted : (.instanceMethod yM_counted : Cond) ∈ WA := inA2 192 rfl rfl
theorem mkM_counted : (.code yM_counted bM_counted 4 none : Cond) ∈ WA := inA2 193 rfl rfl
theorem mlW_88 : (.methodLink RW 88 yM_below : Cond) ∈ WA := inA2 194 rfl rfl
theorem miM_below : (.instanceMethod yM_below : Cond) ∈ WA := inA2 195 rfl rfl
theorem msM_below : (.selects RM yM_below yM_below : Cond) ∈ WA := inA2 196 rfl rfl
theorem mkM_below : (.code yM_below bM_below 6 (some .int) : Cond) ∈ WA := inA2 197 rfl rfl
theorem mlW_91 : (.methodLink RW 91 yM_different : Cond) ∈ WA := inA2 198 rfl rfl
theorem miM_different : (.instanceMethod yM_different : Cond) ∈ WA := inA2 199 rfl rfl
theorem msM_different : (.selects RM yM_different yM_different : Cond) ∈ WA := inA2 200 rfl rfl
theorem mkM_different : (.code yM_different bM_different 4 (some .int) : Cond) ∈ WA := inA2 201 rfl rfl
theorem mlW_94 : (.methodLink RW 94 yM_number : Cond) ∈ WA := inA2 202 rfl rfl
theorem miM_number : (.instanceMethod yM_number : Cond) ∈ WA := inA2 203 rfl rfl
theorem msM_number : (.selects RM yM_number yM_number : Cond) ∈ WA := inA2 204 rfl rfl
theorem mkM_number : (.code yM_number bM_number 2 (some .int) : Cond) ∈ WA := inA2 205 rfl rfl
theorem mlW_97 : (.methodLink RW 97 yM_before : Cond) ∈ WA := inA2 206 rfl rfl
theorem miM_before : (.instanceMethod yM_before : Cond) ∈ WA := inA2 207 rfl rfl
theorem msM_before : (.selects RM yM_before yM_before : Cond) ∈ WA := inA2 208 rfl rfl
theorem mkM_before : (.code yM_before bM_before 6 (some .int) : Cond) ∈ WA := inA2 209 rfl rfl
theorem mlW_100 : (.methodLink RW 100 yM_most : Cond) ∈ WA := inA2 210 rfl rfl
theorem miM_most : (.instanceMethod yM_most : Cond) ∈ WA := inA2 211 rfl rfl
theorem msM_most : (.selects RM yM_most yM_most : Cond) ∈ WA := inA2 212 rfl rfl
theorem mkM_most : (.code yM_most bM_most 5 (some .int) : Cond) ∈ WA := inA2 213 rfl rfl
theorem mlW_104 : (.methodLink RW 104 yM_count : Cond) ∈ WA := inA2 214 rfl rfl
theorem miM_count : (.instanceMethod yM_count : Cond) ∈ WA := inA2 215 rfl rfl
theorem msM_count : (.selects RM yM_count yM_count : Cond) ∈ WA := inA2 216 rfl rfl
theorem mkM_count : (.code yM_count bM_count 2 (some .int) : Cond) ∈ WA := inA2 217 rfl rfl
theorem ma_long : (.arrayClass .long : Cond) ∈ WA := inA2 218 rfl rfl
theorem msT_putZerosInFront : (.selects RT yT_putZerosInFront yT_putZerosInFront : Cond) ∈ WA := inA0 0 rfl rfl
theorem msV_onesBefore : (.selects RV yV_onesBefore yV_onesBefore : Cond) ∈ WA := inA0 2 rfl rfl
theorem msL_checkPart : (.selects RL yL_checkPart yL_checkPart : Cond) ∈ WA := inA0 3 rfl rfl
theorem msT_bottomOf : (.selects RT yT_bottomOf yT_bottomOf : Cond) ∈ WA := inA0 4 rfl rfl
theorem msM_refuse : (.selects RM yM_refuse yM_refuse : Cond) ∈ WA := inA0 5 rfl rfl
theorem msM_noPart : (.selects RM yM_noPart yM_noPart : Cond) ∈ WA := inA0 6 rfl rfl
theorem msM_counted : (.selects RM yM_counted yM_counted : Cond) ∈ WA := inA0 7 rfl rfl
end
section
theorem dL_init_0 : decode bL_init 0 = .ok (.aload_n 0, 1) := by decide +kernel
theorem dL_init_1 : decode bL_init 1 = .ok (.invokespecial 3, 3) := by decide +kernel
theorem dL_init_4 : decode bL_init 4 = .ok (.aload_n 0, 1) := by decide +kernel
theorem dL_init_5 : decode bL_init 5 = .ok (.sipush 4000, 3) := by decide +kernel
theorem dL_init_8 : decode bL_init 8 = .ok (.newarray .int, 2) := by decide +kernel
theorem dL_init_10 : decode bL_init 10 = .ok (.putfield 9, 3) := by decide +kernel
theorem dL_init_13 : decode bL_init 13 = .ok (.aload_n 0, 1) := by decide +kernel
theorem dL_init_14 : decode bL_init 14 = .ok (.new 13, 3) := by decide +kernel
theorem dL_init_17 : decode bL_init 17 = .ok (.dup, 1) := by decide +kernel
theorem dL_init_18 : decode bL_init 18 = .ok (.invokespecial 15, 3) := by decide +kernel
theorem dL_init_21 : decode bL_init 21 = .ok (.putfield 16, 3) := by decide +kernel
theorem dL_init_24 : decode bL_init 24 = .ok (.aload_n 0, 1) := by decide +kernel
theorem dL_init_25 : decode bL_init 25 = .ok (.sipush 512, 3) := by decide +kernel
theorem dL_init_28 : decode bL_init 28 = .ok (.newarray .int, 2) := by decide +kernel
theorem dL_init_30 : decode bL_init 30 = .ok (.putfield 20, 3) := by decide +kernel
theorem dL_init_33 : decode bL_init 33 = .ok (.aload_n 0, 1) := by decide +kernel
theorem dL_init_34 : decode bL_init 34 = .ok (.iconst 0, 1) := by decide +kernel
theorem dL_init_35 : decode bL_init 35 = .ok (.putfield 23, 3) := by decide +kernel
theorem dL_init_38 : decode bL_init 38 = .ok (.aload_n 0, 1) := by decide +kernel
theorem dL_init_39 : decode bL_init 39 = .ok (.iconst 0, 1) := by decide +kernel
theorem dL_init_40 : decode bL_init 40 = .ok (.putfield 27, 3) := by decide +kernel
theorem dL_init_43 : decode bL_init 43 = .ok (.return_, 1) := by decide +kernel
theorem dT_init_0 : decode bT_init 0 = .ok (.aload_n 0, 1) := by decide +kernel
theorem dT_init_1 : decode bT_init 1 = .ok (.invokespecial 3, 3) := by decide +kernel
theorem dT_init_4 : decode bT_init 4 = .ok (.aload_n 0, 1) := by decide +kernel
theorem dT_init_5 : decode bT_init 5 = .ok (.bipush 9, 2) := by decide +kernel
theorem dT_init_7 : decode bT_init 7 = .ok (.anewarray 9, 3) := by decide +kernel
theorem dT_init_10 : decode bT_init 10 = .ok (.putfield 11, 3) := by decide +kernel
theorem dT_init_13 : decode bT_init 13 = .ok (.aload_n 0, 1) := by decide +kernel
theorem dT_init_14 : decode bT_init 14 = .ok (.sipush 4000, 3) := by decide +kernel
theorem dT_init_17 : decode bT_init 17 = .ok (.newarray .int, 2) := by decide +kernel
theorem dT_init_19 : decode bT_init 19 = .ok (.putfield 17, 3) := by decide +kernel
theorem dT_init_22 : decode bT_init 22 = .ok (.aload_n 0, 1) := by decide +kernel
theorem dT_init_23 : decode bT_init 23 = .ok (.sipush 4000, 3) := by decide +kernel
theorem dT_init_26 : decode bT_init 26 = .ok (.newarray .int, 2) := by decide +kernel
theorem dT_init_28 : decode bT_init 28 = .ok (.putfield 21, 3) := by decide +kernel
theorem dT_init_31 : decode bT_init 31 = .ok (.iconst 0, 1) := by decide +kernel
theorem dT_init_32 : decode bT_init 32 = .ok (.istore_n 1, 1) := by decide +kernel
theorem dT_init_33 : decode bT_init 33 = .ok (.iload_n 1, 1) := by decide +kernel
theorem dT_init_34 : decode bT_init 34 = .ok (.bipush 9, 2) := by decide +kernel
theorem dT_init_36 : decode bT_init 36 = .ok (.if_icmp .ge 22, 3) := by decide +kernel
theorem dT_init_39 : decode bT_init 39 = .ok (.aload_n 0, 1) := by decide +kernel
theorem dT_init_40 : decode bT_init 40 = .ok (.getfield 11, 3) := by decide +kernel
theorem dT_init_43 : decode bT_init 43 = .ok (.iload_n 1, 1) := by decide +kernel
theorem dT_init_44 : decode bT_init 44 = .ok (.new 9, 3) := by decide +kernel
theorem dT_init_47 : decode bT_init 47 = .ok (.dup, 1) := by decide +kernel
theorem dT_init_48 : decode bT_init 48 = .ok (.invokespecial 24, 3) := by decide +kernel
theorem dT_init_51 : decode bT_init 51 = .ok (.aastore, 1) := by decide +kernel
theorem dT_init_52 : decode bT_init 52 = .ok (.iinc 1 1, 3) := by decide +kernel
theorem dT_init_55 : decode bT_init 55 = .ok (.goto (-22), 3) := by decide +kernel
theorem dT_init_58 : decode bT_init 58 = .ok (.aload_n 0, 1) := by decide +kernel
theorem dT_init_59 : decode bT_init 59 = .ok (.iconst 0, 1) := by decide +kernel
theorem dT_init_60 : decode bT_init 60 = .ok (.putfield 25, 3) := by decide +kernel
theorem dT_init_63 : decode bT_init 63 = .ok (.return_, 1) := by decide +kernel
theorem dV_init_0 : decode bV_init 0 = .ok (.aload_n 0, 1) := by decide +kernel
theorem dV_init_1 : decode bV_init 1 = .ok (.invokespecial 3, 3) := by decide +kernel
theorem dV_init_4 : decode bV_init 4 = .ok (.aload_n 0, 1) := by decide +kernel
theorem dV_init_5 : decode bV_init 5 = .ok (.bipush 126, 2) := by decide +kernel
theorem dV_init_7 : decode bV_init 7 = .ok (.newarray .int, 2) := by decide +kernel
theorem dV_init_9 : decode bV_init 9 = .ok (.putfield 9, 3) := by decide +kernel
theorem dV_init_12 : decode bV_init 12 = .ok (.aload_n 0, 1) := by decide +kernel
theorem dV_init_13 : decode bV_init 13 = .ok (.bipush 126, 2) := by decide +kernel
theorem dV_init_15 : decode bV_init 15 = .ok (.newarray .int, 2) := by decide +kernel
theorem dV_init_17 : decode bV_init 17 = .ok (.putfield 15, 3) := by decide +kernel
theorem dV_init_20 : decode bV_init 20 = .ok (.aload_n 0, 1) := by decide +kernel
theorem dV_init_21 : decode bV_init 21 = .ok (.iconst 0, 1) := by decide +kernel
theorem dV_init_22 : decode bV_init 22 = .ok (.putfield 18, 3) := by decide +kernel
theorem dV_init_25 : decode bV_init 25 = .ok (.aload_n 0, 1) := by decide +kernel
theorem dV_init_26 : decode bV_init 26 = .ok (.iconst 0, 1) := by decide +kernel
theorem dV_init_27 : decode bV_init 27 = .ok (.putfield 22, 3) := by decide +kernel
theorem dV_init_30 : decode bV_init 30 = .ok (.return_, 1) := by decide +kernel
theorem dL_build_0 : decode bL_build 0 = .ok (.aload_n 0, 1) := by decide +kernel
theorem dL_build_1 : decode bL_build 1 = .ok (.getfield 16, 3) := by decide +kernel
theorem dL_build_4 : decode bL_build 4 = .ok (.aload_n 0, 1) := by decide +kernel
theorem dL_build_5 : decode bL_build 5 = .ok (.getfield 9, 3) := by decide +kernel
theorem dL_build_8 : decode bL_build 8 = .ok (.aload_n 0, 1) := by decide +kernel
theorem dL_build_9 : decode bL_build 9 = .ok (.getfield 23, 3) := by decide +kernel
theorem dL_build_12 : decode bL_build 12 = .ok (.invokevirtual 42, 3) := by decide +kernel
theorem dL_build_15 : decode bL_build 15 = .ok (.aload_n 0, 1) := by decide +kernel
theorem dL_build_16 : decode bL_build 16 = .ok (.getfield 16, 3) := by decide +kernel
theorem dL_build_19 : decode bL_build 19 = .ok (.invokevirtual 46, 3) := by decide +kernel
theorem dL_build_22 : decode bL_build 22 = .ok (.ireturn, 1) := by decide +kernel
theorem dT_fill_0 : decode bT_fill 0 = .ok (.aload_n 0, 1) := by decide +kernel
theorem dT_fill_1 : decode bT_fill 1 = .ok (.iload_n 2, 1) := by decide +kernel
theorem dT_fill_2 : decode bT_fill 2 = .ok (.putfield 25, 3) := by decide +kernel
theorem dT_fill_5 : decode bT_fill 5 = .ok (.aload_n 1, 1) := by decide +kernel
theorem dT_fill_6 : decode bT_fill 6 = .ok (.iconst 0, 1) := by decide +kernel
theorem dT_fill_7 : decode bT_fill 7 = .ok (.aload_n 0, 1) := by decide +kernel
theorem dT_fill_8 : decode bT_fill 8 = .ok (.getfield 17, 3) := by decide +kernel
theorem dT_fill_11 : decode bT_fill 11 = .ok (.iconst 0, 1) := by decide +kernel
theorem dT_fill_12 : decode bT_fill 12 = .ok (.iload_n 2, 1) := by decide +kernel
theorem dT_fill_13 : decode bT_fill 13 = .ok (.invokestatic 29, 3) := by decide +kernel
theorem dT_fill_16 : decode bT_fill 16 = .ok (.iconst 0, 1) := by decide +kernel
theorem dT_fill_17 : decode bT_fill 17 = .ok (.istore_n 3, 1) := by decide +kernel
theorem dT_fill_18 : decode bT_fill 18 = .ok (.iload_n 3, 1) := by decide +kernel
theorem dT_fill_19 : decode bT_fill 19 = .ok (.bipush 9, 2) := by decide +kernel
theorem dT_fill_21 : decode bT_fill 21 = .ok (.if_icmp .ge 35, 3) := by decide +kernel
theorem dT_fill_24 : decode bT_fill 24 = .ok (.aload_n 0, 1) := by decide +kernel
theorem dT_fill_25 : decode bT_fill 25 = .ok (.getfield 11, 3) := by decide +kernel
theorem dT_fill_28 : decode bT_fill 28 = .ok (.iload_n 3, 1) := by decide +kernel
theorem dT_fill_29 : decode bT_fill 29 = .ok (.aaload, 1) := by decide +kernel
theorem dT_fill_30 : decode bT_fill 30 = .ok (.aload_n 0, 1) := by decide +kernel
theorem dT_fill_31 : decode bT_fill 31 = .ok (.getfield 17, 3) := by decide +kernel
theorem dT_fill_34 : decode bT_fill 34 = .ok (.iload_n 2, 1) := by decide +kernel
theorem dT_fill_35 : decode bT_fill 35 = .ok (.iload_n 3, 1) := by decide +kernel
theorem dT_fill_36 : decode bT_fill 36 = .ok (.invokestatic 35, 3) := by decide +kernel
theorem dT_fill_39 : decode bT_fill 39 = .ok (.invokevirtual 39, 3) := by decide +kernel
theorem dT_fill_42 : decode bT_fill 42 = .ok (.aload_n 0, 1) := by decide +kernel
theorem dT_fill_43 : decode bT_fill 43 = .ok (.iload_n 3, 1) := by decide +kernel
theorem dT_fill_44 : decode bT_fill 44 = .ok (.invokestatic 35, 3) := by decide +kernel
theorem dT_fill_47 : decode bT_fill 47 = .ok (.invokevirtual 43, 3) := by decide +kernel
theorem dT_fill_50 : decode bT_fill 50 = .ok (.iinc 3 1, 3) := by decide +kernel
theorem dT_fill_53 : decode bT_fill 53 = .ok (.goto (-35), 3) := by decide +kernel
theorem dT_fill_56 : decode bT_fill 56 = .ok (.return_, 1) := by decide +kernel
theorem dT_shiftOf_0 : decode bT_shiftOf 0 = .ok (.bipush 8, 2) := by decide +kernel
theorem dT_shiftOf_2 : decode bT_shiftOf 2 = .ok (.iload_n 0, 1) := by decide +kernel
theorem dT_shiftOf_3 : decode bT_shiftOf 3 = .ok (.isub, 1) := by decide +kernel
theorem dT_shiftOf_4 : decode bT_shiftOf 4 = .ok (.ireturn, 1) := by decide +kernel
theorem dV_fill_0 : decode bV_fill 0 = .ok (.aload_n 0, 1) := by decide +kernel
theorem dV_fill_1 : decode bV_fill 1 = .ok (.getfield 9, 3) := by decide +kernel
theorem dV_fill_4 : decode bV_fill 4 = .ok (.iconst 0, 1) := by decide +kernel
theorem dV_fill_5 : decode bV_fill 5 = .ok (.invokestatic 25, 3) := by decide +kernel
theorem dV_fill_8 : decode bV_fill 8 = .ok (.iconst 0, 1) := by decide +kernel
theorem dV_fill_9 : decode bV_fill 9 = .ok (.istore 4, 2) := by decide +kernel
theorem dV_fill_11 : decode bV_fill 11 = .ok (.iload 4, 2) := by decide +kernel
theorem dV_fill_13 : decode bV_fill 13 = .ok (.iload_n 2, 1) := by decide +kernel
theorem dV_fill_14 : decode bV_fill 14 = .ok (.if_icmp .ge 36, 3) := by decide +kernel
theorem dV_fill_17 : decode bV_fill 17 = .ok (.aload_n 0, 1) := by decide +kernel
theorem dV_fill_18 : decode bV_fill 18 = .ok (.getfield 9, 3) := by decide +kernel
theorem dV_fill_21 : decode bV_fill 21 = .ok (.iload 4, 2) := by decide +kernel
theorem dV_fill_23 : decode bV_fill 23 = .ok (.bipush 32, 2) := by decide +kernel
theorem dV_fill_25 : decode bV_fill 25 = .ok (.idiv, 1) := by decide +kernel
theorem dV_fill_26 : decode bV_fill 26 = .ok (.dup2, 1) := by decide +kernel
theorem dV_fill_27 : decode bV_fill 27 = .ok (.iaload, 1) := by decide +kernel
theorem dV_fill_28 : decode bV_fill 28 = .ok (.aload_n 1, 1) := by decide +kernel
theorem dV_fill_29 : decode bV_fill 29 = .ok (.iload 4, 2) := by decide +kernel
theorem dV_fill_31 : decode bV_fill 31 = .ok (.iaload, 1) := by decide +kernel
theorem dV_fill_32 : decode bV_fill 32 = .ok (.iload_n 3, 1) := by decide +kernel
theorem dV_fill_33 : decode bV_fill 33 = .ok (.ishr, 1) := by decide +kernel
theorem dV_fill_34 : decode bV_fill 34 = .ok (.iconst 1, 1) := by decide +kernel
theorem dV_fill_35 : decode bV_fill 35 = .ok (.iand, 1) := by decide +kernel
theorem dV_fill_36 : decode bV_fill 36 = .ok (.iload 4, 2) := by decide +kernel
theorem dV_fill_38 : decode bV_fill 38 = .ok (.bipush 32, 2) := by decide +kernel
theorem dV_fill_40 : decode bV_fill 40 = .ok (.irem, 1) := by decide +kernel
theorem dV_fill_41 : decode bV_fill 41 = .ok (.ishl, 1) := by decide +kernel
theorem dV_fill_42 : decode bV_fill 42 = .ok (.ior, 1) := by decide +kernel
theorem dV_fill_43 : decode bV_fill 43 = .ok (.iastore, 1) := by decide +kernel
theorem dV_fill_44 : decode bV_fill 44 = .ok (.iinc 4 1, 3) := by decide +kernel
theorem dV_fill_47 : decode bV_fill 47 = .ok (.goto (-36), 3) := by decide +kernel
theorem dV_fill_50 : decode bV_fill 50 = .ok (.iconst 0, 1) := by decide +kernel
theorem dV_fill_51 : decode bV_fill 51 = .ok (.istore 4, 2) := by decide +kernel
theorem dV_fill_53 : decode bV_fill 53 = .ok (.iconst 0, 1) := by decide +kernel
theorem dV_fill_54 : decode bV_fill 54 = .ok (.istore 5, 2) := by decide +kernel
theorem dV_fill_56 : decode bV_fill 56 = .ok (.iload 5, 2) := by decide +kernel
theorem dV_fill_58 : decode bV_fill 58 = .ok (.bipush 126, 2) := by decide +kernel
theorem dV_fill_60 : decode bV_fill 60 = .ok (.if_icmp .ge 33, 3) := by decide +kernel
theorem dV_fill_63 : decode bV_fill 63 = .ok (.aload_n 0, 1) := by decide +kernel
theorem dV_fill_64 : decode bV_fill 64 = .ok (.getfield 15, 3) := by decide +kernel
theorem dV_fill_67 : decode bV_fill 67 = .ok (.iload 5, 2) := by decide +kernel
theorem dV_fill_69 : decode bV_fill 69 = .ok (.iload 4, 2) := by decide +kernel
theorem dV_fill_71 : decode bV_fill 71 = .ok (.iastore, 1) := by decide +kernel
theorem dV_fill_72 : decode bV_fill 72 = .ok (.iload 4, 2) := by decide +kernel
theorem dV_fill_74 : decode bV_fill 74 = .ok (.aload_n 0, 1) := by decide +kernel
theorem dV_fill_75 : decode bV_fill 75 = .ok (.getfield 9, 3) := by decide +kernel
theorem dV_fill_78 : decode bV_fill 78 = .ok (.iload 5, 2) := by decide +kernel
theorem dV_fill_80 : decode bV_fill 80 = .ok (.iaload, 1) := by decide +kernel
theorem dV_fill_81 : decode bV_fill 81 = .ok (.invokestatic 31, 3) := by decide +kernel
theorem dV_fill_84 : decode bV_fill 84 = .ok (.iadd, 1) := by decide +kernel
theorem dV_fill_85 : decode bV_fill 85 = .ok (.istore 4, 2) := by decide +kernel
theorem dV_fill_87 : decode bV_fill 87 = .ok (.iinc 5 1, 3) := by decide +kernel
theorem dV_fill_90 : decode bV_fill 90 = .ok (.goto (-34), 3) := by decide +kernel
theorem dV_fill_93 : decode bV_fill 93 = .ok (.aload_n 0, 1) := by decide +kernel
theorem dV_fill_94 : decode bV_fill 94 = .ok (.iload_n 2, 1) := by decide +kernel
theorem dV_fill_95 : decode bV_fill 95 = .ok (.putfield 18, 3) := by decide +kernel
theorem dV_fill_98 : decode bV_fill 98 = .ok (.aload_n 0, 1) := by decide +kernel
theorem dV_fill_99 : decode bV_fill 99 = .ok (.iload_n 2, 1) := by decide +kernel
theorem dV_fill_100 : decode bV_fill 100 = .ok (.iload 4, 2) := by decide +kernel
theorem dV_fill_102 : decode bV_fill 102 = .ok (.isub, 1) := by decide +kernel
theorem dV_fill_103 : decode bV_fill 103 = .ok (.putfield 22, 3) := by decide +kernel
theorem dV_fill_106 : decode bV_fill 106 = .ok (.return_, 1) := by decide +kernel
theorem dF_fill_0 : decode bF_fill 0 = .ok (.iconst 0, 1) := by decide +kernel
theorem dF_fill_1 : decode bF_fill 1 = .ok (.istore_n 2, 1) := by decide +kernel
theorem dF_fill_2 : decode bF_fill 2 = .ok (.aload_n 0, 1) := by decide +kernel
theorem dF_fill_3 : decode bF_fill 3 = .ok (.arraylength, 1) := by decide +kernel
theorem dF_fill_4 : decode bF_fill 4 = .ok (.istore_n 3, 1) := by decide +kernel
theorem dF_fill_5 : decode bF_fill 5 = .ok (.iload_n 2, 1) := by decide +kernel
theorem dF_fill_6 : decode bF_fill 6 = .ok (.iload_n 3, 1) := by decide +kernel
theorem dF_fill_7 : decode bF_fill 7 = .ok (.if_icmp .ge 13, 3) := by decide +kernel
theorem dF_fill_10 : decode bF_fill 10 = .ok (.aload_n 0, 1) := by decide +kernel
theorem dF_fill_11 : decode bF_fill 11 = .ok (.iload_n 2, 1) := by decide +kernel
theorem dF_fill_12 : decode bF_fill 12 = .ok (.iload_n 1, 1) := by decide +kernel
theorem dF_fill_13 : decode bF_fill 13 = .ok (.iastore, 1) := by decide +kernel
theorem dF_fill_14 : decode bF_fill 14 = .ok (.iinc 2 1, 3) := by decide +kernel
theorem dF_fill_17 : decode bF_fill 17 = .ok (.goto (-12), 3) := by decide +kernel
theorem dF_fill_20 : decode bF_fill 20 = .ok (.return_, 1) := by decide +kernel
theorem dJ_bitCount_0 : decode bJ_bitCount 0 = .ok (.iload_n 0, 1) := by decide +kernel
theorem dJ_bitCount_1 : decode bJ_bitCount 1 = .ok (.iload_n 0, 1) := by decide +kernel
theorem dJ_bitCount_2 : decode bJ_bitCount 2 = .ok (.iconst 1, 1) := by decide +kernel
theorem dJ_bitCount_3 : decode bJ_bitCount 3 = .ok (.iushr, 1) := by decide +kernel
theorem dJ_bitCount_4 : decode bJ_bitCount 4 = .ok (.ldc_w 265, 3) := by decide +kernel
theorem dJ_bitCount_7 : decode bJ_bitCount 7 = .ok (.iand, 1) := by decide +kernel
theorem dJ_bitCount_8 : decode bJ_bitCount 8 = .ok (.isub, 1) := by decide +kernel
theorem dJ_bitCount_9 : decode bJ_bitCount 9 = .ok (.istore_n 0, 1) := by decide +kernel
theorem dJ_bitCount_10 : decode bJ_bitCount 10 = .ok (.iload_n 0, 1) := by decide +kernel
theorem dJ_bitCount_11 : decode bJ_bitCount 11 = .ok (.ldc_w 266, 3) := by decide +kernel
theorem dJ_bitCount_14 : decode bJ_bitCount 14 = .ok (.iand, 1) := by decide +kernel
theorem dJ_bitCount_15 : decode bJ_bitCount 15 = .ok (.iload_n 0, 1) := by decide +kernel
theorem dJ_bitCount_16 : decode bJ_bitCount 16 = .ok (.iconst 2, 1) := by decide +kernel
theorem dJ_bitCount_17 : decode bJ_bitCount 17 = .ok (.iushr, 1) := by decide +kernel
theorem dJ_bitCount_18 : decode bJ_bitCount 18 = .ok (.ldc_w 266, 3) := by decide +kernel
theorem dJ_bitCount_21 : decode bJ_bitCount 21 = .ok (.iand, 1) := by decide +kernel
theorem dJ_bitCount_22 : decode bJ_bitCount 22 = .ok (.iadd, 1) := by decide +kernel
theorem dJ_bitCount_23 : decode bJ_bitCount 23 = .ok (.istore_n 0, 1) := by decide +kernel
theorem dJ_bitCount_24 : decode bJ_bitCount 24 = .ok (.iload_n 0, 1) := by decide +kernel
theorem dJ_bitCount_25 : decode bJ_bitCount 25 = .ok (.iload_n 0, 1) := by decide +kernel
theorem dJ_bitCount_26 : decode bJ_bitCount 26 = .ok (.iconst 4, 1) := by decide +kernel
theorem dJ_bitCount_27 : decode bJ_bitCount 27 = .ok (.iushr, 1) := by decide +kernel
theorem dJ_bitCount_28 : decode bJ_bitCount 28 = .ok (.iadd, 1) := by decide +kernel
theorem dJ_bitCount_29 : decode bJ_bitCount 29 = .ok (.ldc_w 267, 3) := by decide +kernel
theorem dJ_bitCount_32 : decode bJ_bitCount 32 = .ok (.iand, 1) := by decide +kernel
theorem dJ_bitCount_33 : decode bJ_bitCount 33 = .ok (.istore_n 0, 1) := by decide +kernel
theorem dJ_bitCount_34 : decode bJ_bitCount 34 = .ok (.iload_n 0, 1) := by decide +kernel
theorem dJ_bitCount_35 : decode bJ_bitCount 35 = .ok (.iload_n 0, 1) := by decide +kernel
theorem dJ_bitCount_36 : decode bJ_bitCount 36 = .ok (.bipush 8, 2) := by decide +kernel
theorem dJ_bitCount_38 : decode bJ_bitCount 38 = .ok (.iushr, 1) := by decide +kernel
theorem dJ_bitCount_39 : decode bJ_bitCount 39 = .ok (.iadd, 1) := by decide +kernel
theorem dJ_bitCount_40 : decode bJ_bitCount 40 = .ok (.istore_n 0, 1) := by decide +kernel
theorem dJ_bitCount_41 : decode bJ_bitCount 41 = .ok (.iload_n 0, 1) := by decide +kernel
theorem dJ_bitCount_42 : decode bJ_bitCount 42 = .ok (.iload_n 0, 1) := by decide +kernel
theorem dJ_bitCount_43 : decode bJ_bitCount 43 = .ok (.bipush 16, 2) := by decide +kernel
theorem dJ_bitCount_45 : decode bJ_bitCount 45 = .ok (.iushr, 1) := by decide +kernel
theorem dJ_bitCount_46 : decode bJ_bitCount 46 = .ok (.iadd, 1) := by decide +kernel
theorem dJ_bitCount_47 : decode bJ_bitCount 47 = .ok (.istore_n 0, 1) := by decide +kernel
theorem dJ_bitCount_48 : decode bJ_bitCount 48 = .ok (.iload_n 0, 1) := by decide +kernel
theorem dJ_bitCount_49 : decode bJ_bitCount 49 = .ok (.bipush 63, 2) := by decide +kernel
theorem dJ_bitCount_51 : decode bJ_bitCount 51 = .ok (.iand, 1) := by decide +kernel
theorem dJ_bitCount_52 : decode bJ_bitCount 52 = .ok (.ireturn, 1) := by decide +kernel
theorem dT_putZerosInFront_0 : decode bT_putZerosInFront 0 = .ok (.iconst 0, 1) := by decide +kernel
theorem dT_putZerosInFront_1 : decode bT_putZerosInFront 1 = .ok (.istore_n 2, 1) := by decide +kernel
theorem dT_putZerosInFront_2 : decode bT_putZerosInFront 2 = .ok (.iconst 0, 1) := by decide +kernel
theorem dT_putZerosInFront_3 : decode bT_putZerosInFront 3 = .ok (.istore_n 3, 1) := by decide +kernel
theorem dT_putZerosInFront_4 : decode bT_putZerosInFront 4 = .ok (.iconst 0, 1) := by decide +kernel
theorem dT_putZerosInFront_5 : decode bT_putZerosInFront 5 = .ok (.istore 4, 2) := by decide +kernel
theorem dT_putZerosInFront_7 : decode bT_putZerosInFront 7 = .ok (.iload 4, 2) := by decide +kernel
theorem dT_putZerosInFront_9 : decode bT_putZerosInFront 9 = .ok (.aload_n 0, 1) := by decide +kernel
theorem dT_putZerosInFront_10 : decode bT_putZerosInFront 10 = .ok (.getfield 25, 3) := by decide +kernel
theorem dT_putZerosInFront_13 : decode bT_putZerosInFront 13 = .ok (.if_icmp .ge 52, 3) := by decide +kernel
theorem dT_putZerosInFront_16 : decode bT_putZerosInFront 16 = .ok (.aload_n 0, 1) := by decide +kernel
theorem dT_putZerosInFront_17 : decode bT_putZerosInFront 17 = .ok (.getfield 17, 3) := by decide +kernel
theorem dT_putZerosInFront_20 : decode bT_putZerosInFront 20 = .ok (.iload 4, 2) := by decide +kernel
theorem dT_putZerosInFront_22 : decode bT_putZerosInFront 22 = .ok (.iaload, 1) := by decide +kernel
theorem dT_putZerosInFront_23 : decode bT_putZerosInFront 23 = .ok (.istore 5, 2) := by decide +kernel
theorem dT_putZerosInFront_25 : decode bT_putZerosInFront 25 = .ok (.iload 5, 2) := by decide +kernel
theorem dT_putZerosInFront_27 : decode bT_putZerosInFront 27 = .ok (.iload_n 1, 1) := by decide +kernel
theorem dT_putZerosInFront_28 : decode bT_putZerosInFront 28 = .ok (.ishr, 1) := by decide +kernel
theorem dT_putZerosInFront_29 : decode bT_putZerosInFront 29 = .ok (.iconst 1, 1) := by decide +kernel
theorem dT_putZerosInFront_30 : decode bT_putZerosInFront 30 = .ok (.iand, 1) := by decide +kernel
theorem dT_putZerosInFront_31 : decode bT_putZerosInFront 31 = .ok (.ifCond .ne 17, 3) := by decide +kernel
theorem dT_putZerosInFront_34 : decode bT_putZerosInFront 34 = .ok (.aload_n 0, 1) := by decide +kernel
theorem dT_putZerosInFront_35 : decode bT_putZerosInFront 35 = .ok (.getfield 17, 3) := by decide +kernel
theorem dT_putZerosInFront_38 : decode bT_putZerosInFront 38 = .ok (.iload_n 2, 1) := by decide +kernel
theorem dT_putZerosInFront_39 : decode bT_putZerosInFront 39 = .ok (.iload 5, 2) := by decide +kernel
theorem dT_putZerosInFront_41 : decode bT_putZerosInFront 41 = .ok (.iastore, 1) := by decide +kernel
theorem dT_putZerosInFront_42 : decode bT_putZerosInFront 42 = .ok (.iinc 2 1, 3) := by decide +kernel
theorem dT_putZerosInFront_45 : decode bT_putZerosInFront 45 = .ok (.goto 14, 3) := by decide +kernel
theorem dT_putZerosInFront_48 : decode bT_putZerosInFront 48 = .ok (.aload_n 0, 1) := by decide +kernel
theorem dT_putZerosInFront_49 : decode bT_putZerosInFront 49 = .ok (.getfield 21, 3) := by decide +kernel
theorem dT_putZerosInFront_52 : decode bT_putZerosInFront 52 = .ok (.iload_n 3, 1) := by decide +kernel
theorem dT_putZerosInFront_53 : decode bT_putZerosInFront 53 = .ok (.iload 5, 2) := by decide +kernel
theorem dT_putZerosInFront_55 : decode bT_putZerosInFront 55 = .ok (.iastore, 1) := by decide +kernel
theorem dT_putZerosInFront_56 : decode bT_putZerosInFront 56 = .ok (.iinc 3 1, 3) := by decide +kernel
theorem dT_putZerosInFront_59 : decode bT_putZerosInFront 59 = .ok (.iinc 4 1, 3) := by decide +kernel
theorem dT_putZerosInFront_62 : decode bT_putZerosInFront 62 = .ok (.goto (-55), 3) := by decide +kernel
theorem dT_putZerosInFront_65 : decode bT_putZerosInFront 65 = .ok (.aload_n 0, 1) := by decide +kernel
theorem dT_putZerosInFront_66 : decode bT_putZerosInFront 66 = .ok (.getfield 21, 3) := by decide +kernel
theorem dT_putZerosInFront_69 : decode bT_putZerosInFront 69 = .ok (.iconst 0, 1) := by decide +kernel
theorem dT_putZerosInFront_70 : decode bT_putZerosInFront 70 = .ok (.aload_n 0, 1) := by decide +kernel
theorem dT_putZerosInFront_71 : decode bT_putZerosInFront 71 = .ok (.getfield 17, 3) := by decide +kernel
theorem dT_putZerosInFront_74 : decode bT_putZerosInFront 74 = .ok (.iload_n 2, 1) := by decide +kernel
theorem dT_putZerosInFront_75 : decode bT_putZerosInFront 75 = .ok (.iload_n 3, 1) := by decide +kernel
theorem dT_putZerosInFront_76 : decode bT_putZerosInFront 76 = .ok (.invokestatic 29, 3) := by decide +kernel
theorem dT_putZerosInFront_79 : decode bT_putZerosInFront 79 = .ok (.return_, 1) := by decide +kernel
theorem dT_size_0 : decode bT_size 0 = .ok (.aload_n 0, 1) := by decide +kernel
theorem dT_size_1 : decode bT_size 1 = .ok (.getfield 25, 3) := by decide +kernel
theorem dT_size_4 : decode bT_size 4 = .ok (.ireturn, 1) := by decide +kernel
theorem dL_count_0 : decode bL_count 0 = .ok (.iload_n 1, 1) := by decide +kernel
theorem dL_count_1 : decode bL_count 1 = .ok (.ifCond .ne 8, 3) := by decide +kernel
theorem dL_count_4 : decode bL_count 4 = .ok (.aload_n 0, 1) := by decide +kernel
theorem dL_count_5 : decode bL_count 5 = .ok (.getfield 23, 3) := by decide +kernel
theorem dL_count_8 : decode bL_count 8 = .ok (.ireturn, 1) := by decide +kernel
theorem dL_count_9 : decode bL_count 9 = .ok (.iload_n 1, 1) := by decide +kernel
theorem dL_count_10 : decode bL_count 10 = .ok (.iconst 1, 1) := by decide +kernel
theorem dL_count_11 : decode bL_count 11 = .ok (.if_icmp .ne 13, 3) := by decide +kernel
theorem dL_count_14 : decode bL_count 14 = .ok (.aload_n 0, 1) := by decide +kernel
theorem dL_count_15 : decode bL_count 15 = .ok (.getfield 16, 3) := by decide +kernel
theorem dL_count_18 : decode bL_count 18 = .ok (.invokevirtual 46, 3) := by decide +kernel
theorem dL_count_21 : decode bL_count 21 = .ok (.goto 4, 3) := by decide +kernel
theorem dL_count_24 : decode bL_count 24 = .ok (.iconst (-1), 1) := by decide +kernel
theorem dL_count_25 : decode bL_count 25 = .ok (.ireturn, 1) := by decide +kernel
theorem dW_add_0 : decode bW_add 0 = .ok (.aload 4, 2) := by decide +kernel
theorem dW_add_2 : decode bW_add 2 = .ok (.iconst 0, 1) := by decide +kernel
theorem dW_add_3 : decode bW_add 3 = .ok (.aload_n 0, 1) := by decide +kernel
theorem dW_add_4 : decode bW_add 4 = .ok (.iload_n 1, 1) := by decide +kernel
theorem dW_add_5 : decode bW_add 5 = .ok (.iload_n 2, 1) := by decide +kernel
theorem dW_add_6 : decode bW_add 6 = .ok (.iload_n 3, 1) := by decide +kernel
theorem dW_add_7 : decode bW_add 7 = .ok (.invokevirtual 7, 3) := by decide +kernel
theorem dW_add_10 : decode bW_add 10 = .ok (.i2l, 1) := by decide +kernel
theorem dW_add_11 : decode bW_add 11 = .ok (.lastore, 1) := by decide +kernel
theorem dW_add_12 : decode bW_add 12 = .ok (.goto 7, 3) := by decide +kernel
theorem dW_add_15 : decode bW_add 15 = .ok (.astore 5, 2) := by decide +kernel
theorem dW_add_17 : decode bW_add 17 = .ok (.iconst 1, 1) := by decide +kernel
theorem dW_add_18 : decode bW_add 18 = .ok (.ireturn, 1) := by decide +kernel
theorem dW_add_19 : decode bW_add 19 = .ok (.iconst 0, 1) := by decide +kernel
theorem dW_add_20 : decode bW_add 20 = .ok (.ireturn, 1) := by decide +kernel
theorem dL_add_0 : decode bL_add 0 = .ok (.aload_n 0, 1) := by decide +kernel
theorem dL_add_1 : decode bL_add 1 = .ok (.getfield 23, 3) := by decide +kernel
theorem dL_add_4 : decode bL_add 4 = .ok (.sipush 3997, 3) := by decide +kernel
theorem dL_add_7 : decode bL_add 7 = .ok (.if_icmp .le 13, 3) := by decide +kernel
theorem dL_add_10 : decode bL_add 10 = .ok (.new 30, 3) := by decide +kernel
theorem dL_add_13 : decode bL_add 13 = .ok (.dup, 1) := by decide +kernel
theorem dL_add_14 : decode bL_add 14 = .ok (.ldc 32, 2) := by decide +kernel
theorem dL_add_16 : decode bL_add 16 = .ok (.invokespecial 34, 3) := by decide +kernel
theorem dL_add_19 : decode bL_add 19 = .ok (.athrow, 1) := by decide +kernel
theorem dL_add_20 : decode bL_add 20 = .ok (.aload_n 0, 1) := by decide +kernel
theorem dL_add_21 : decode bL_add 21 = .ok (.getfield 9, 3) := by decide +kernel
theorem dL_add_24 : decode bL_add 24 = .ok (.aload_n 0, 1) := by decide +kernel
theorem dL_add_25 : decode bL_add 25 = .ok (.getfield 23, 3) := by decide +kernel
theorem dL_add_28 : decode bL_add 28 = .ok (.iload_n 1, 1) := by decide +kernel
theorem dL_add_29 : decode bL_add 29 = .ok (.sipush 511, 3) := by decide +kernel
theorem dL_add_32 : decode bL_add 32 = .ok (.iand, 1) := by decide +kernel
theorem dL_add_33 : decode bL_add 33 = .ok (.iastore, 1) := by decide +kernel
theorem dL_add_34 : decode bL_add 34 = .ok (.aload_n 0, 1) := by decide +kernel
theorem dL_add_35 : decode bL_add 35 = .ok (.getfield 9, 3) := by decide +kernel
theorem dL_add_38 : decode bL_add 38 = .ok (.aload_n 0, 1) := by decide +kernel
theorem dL_add_39 : decode bL_add 39 = .ok (.getfield 23, 3) := by decide +kernel
theorem dL_add_42 : decode bL_add 42 = .ok (.iconst 1, 1) := by decide +kernel
theorem dL_add_43 : decode bL_add 43 = .ok (.iadd, 1) := by decide +kernel
theorem dL_add_44 : decode bL_add 44 = .ok (.iload_n 2, 1) := by decide +kernel
theorem dL_add_45 : decode bL_add 45 = .ok (.sipush 511, 3) := by decide +kernel
theorem dL_add_48 : decode bL_add 48 = .ok (.iand, 1) := by decide +kernel
theorem dL_add_49 : decode bL_add 49 = .ok (.iastore, 1) := by decide +kernel
theorem dL_add_50 : decode bL_add 50 = .ok (.aload_n 0, 1) := by decide +kernel
theorem dL_add_51 : decode bL_add 51 = .ok (.getfield 9, 3) := by decide +kernel
theorem dL_add_54 : decode bL_add 54 = .ok (.aload_n 0, 1) := by decide +kernel
theorem dL_add_55 : decode bL_add 55 = .ok (.getfield 23, 3) := by decide +kernel
theorem dL_add_58 : decode bL_add 58 = .ok (.iconst 2, 1) := by decide +kernel
theorem dL_add_59 : decode bL_add 59 = .ok (.iadd, 1) := by decide +kernel
theorem dL_add_60 : decode bL_add 60 = .ok (.iload_n 3, 1) := by decide +kernel
theorem dL_add_61 : decode bL_add 61 = .ok (.sipush 511, 3) := by decide +kernel
theorem dL_add_64 : decode bL_add 64 = .ok (.iand, 1) := by decide +kernel
theorem dL_add_65 : decode bL_add 65 = .ok (.iastore, 1) := by decide +kernel
theorem dL_add_66 : decode bL_add 66 = .ok (.aload_n 0, 1) := by decide +kernel
theorem dL_add_67 : decode bL_add 67 = .ok (.dup, 1) := by decide +kernel
theorem dL_add_68 : decode bL_add 68 = .ok (.getfield 23, 3) := by decide +kernel
theorem dL_add_71 : decode bL_add 71 = .ok (.iconst 3, 1) := by decide +kernel
theorem dL_add_72 : decode bL_add 72 = .ok (.iadd, 1) := by decide +kernel
theorem dL_add_73 : decode bL_add 73 = .ok (.putfield 23, 3) := by decide +kernel
theorem dL_add_76 : decode bL_add 76 = .ok (.aload_n 0, 1) := by decide +kernel
theorem dL_add_77 : decode bL_add 77 = .ok (.getfield 23, 3) := by decide +kernel
theorem dL_add_80 : decode bL_add 80 = .ok (.ireturn, 1) := by decide +kernel
theorem dW_cut_0 : decode bW_cut 0 = .ok (.aload_n 2, 1) := by decide +kernel
theorem dW_cut_1 : decode bW_cut 1 = .ok (.iconst 0, 1) := by decide +kernel
theorem dW_cut_2 : decode bW_cut 2 = .ok (.aload_n 0, 1) := by decide +kernel
theorem dW_cut_3 : decode bW_cut 3 = .ok (.iload_n 1, 1) := by decide +kernel
theorem dW_cut_4 : decode bW_cut 4 = .ok (.invokevirtual 15, 3) := by decide +kernel
theorem dW_cut_7 : decode bW_cut 7 = .ok (.i2l, 1) := by decide +kernel
theorem dW_cut_8 : decode bW_cut 8 = .ok (.lastore, 1) := by decide +kernel
theorem dW_cut_9 : decode bW_cut 9 = .ok (.goto 6, 3) := by decide +kernel
theorem dW_cut_12 : decode bW_cut 12 = .ok (.astore_n 3, 1) := by decide +kernel
theorem dW_cut_13 : decode bW_cut 13 = .ok (.iconst 1, 1) := by decide +kernel
theorem dW_cut_14 : decode bW_cut 14 = .ok (.ireturn, 1) := by decide +kernel
theorem dW_cut_15 : decode bW_cut 15 = .ok (.iconst 0, 1) := by decide +kernel
theorem dW_cut_16 : decode bW_cut 16 = .ok (.ireturn, 1) := by decide +kernel
theorem dL_cut_0 : decode bL_cut 0 = .ok (.iload_n 1, 1) := by decide +kernel
theorem dL_cut_1 : decode bL_cut 1 = .ok (.ifCond .lt 11, 3) := by decide +kernel
theorem dL_cut_4 : decode bL_cut 4 = .ok (.iload_n 1, 1) := by decide +kernel
theorem dL_cut_5 : decode bL_cut 5 = .ok (.aload_n 0, 1) := by decide +kernel
theorem dL_cut_6 : decode bL_cut 6 = .ok (.getfield 23, 3) := by decide +kernel
theorem dL_cut_9 : decode bL_cut 9 = .ok (.if_icmp .le 13, 3) := by decide +kernel
theorem dL_cut_12 : decode bL_cut 12 = .ok (.new 37, 3) := by decide +kernel
theorem dL_cut_15 : decode bL_cut 15 = .ok (.dup, 1) := by decide +kernel
theorem dL_cut_16 : decode bL_cut 16 = .ok (.ldc 39, 2) := by decide +kernel
theorem dL_cut_18 : decode bL_cut 18 = .ok (.invokespecial 41, 3) := by decide +kernel
theorem dL_cut_21 : decode bL_cut 21 = .ok (.athrow, 1) := by decide +kernel
theorem dL_cut_22 : decode bL_cut 22 = .ok (.aload_n 0, 1) := by decide +kernel
theorem dL_cut_23 : decode bL_cut 23 = .ok (.iload_n 1, 1) := by decide +kernel
theorem dL_cut_24 : decode bL_cut 24 = .ok (.putfield 23, 3) := by decide +kernel
theorem dL_cut_27 : decode bL_cut 27 = .ok (.iload_n 1, 1) := by decide +kernel
theorem dL_cut_28 : decode bL_cut 28 = .ok (.ireturn, 1) := by decide +kernel
theorem dW_at_0 : decode bW_at 0 = .ok (.aload_n 2, 1) := by decide +kernel
theorem dW_at_1 : decode bW_at 1 = .ok (.iconst 0, 1) := by decide +kernel
theorem dW_at_2 : decode bW_at 2 = .ok (.aload_n 0, 1) := by decide +kernel
theorem dW_at_3 : decode bW_at 3 = .ok (.iload_n 1, 1) := by decide +kernel
theorem dW_at_4 : decode bW_at 4 = .ok (.invokevirtual 21, 3) := by decide +kernel
theorem dW_at_7 : decode bW_at 7 = .ok (.i2l, 1) := by decide +kernel
theorem dW_at_8 : decode bW_at 8 = .ok (.lastore, 1) := by decide +kernel
theorem dW_at_9 : decode bW_at 9 = .ok (.goto 6, 3) := by decide +kernel
theorem dW_at_12 : decode bW_at 12 = .ok (.astore_n 3, 1) := by decide +kernel
theorem dW_at_13 : decode bW_at 13 = .ok (.iconst 1, 1) := by decide +kernel
theorem dW_at_14 : decode bW_at 14 = .ok (.ireturn, 1) := by decide +kernel
theorem dW_at_15 : decode bW_at 15 = .ok (.iconst 0, 1) := by decide +kernel
theorem dW_at_16 : decode bW_at 16 = .ok (.ireturn, 1) := by decide +kernel
theorem dL_at_0 : decode bL_at 0 = .ok (.iload_n 1, 1) := by decide +kernel
theorem dL_at_1 : decode bL_at 1 = .ok (.ifCond .lt 14, 3) := by decide +kernel
theorem dL_at_4 : decode bL_at 4 = .ok (.iload_n 1, 1) := by decide +kernel
theorem dL_at_5 : decode bL_at 5 = .ok (.aload_n 0, 1) := by decide +kernel
theorem dL_at_6 : decode bL_at 6 = .ok (.getfield 16, 3) := by decide +kernel
theorem dL_at_9 : decode bL_at 9 = .ok (.invokevirtual 46, 3) := by decide +kernel
theorem dL_at_12 : decode bL_at 12 = .ok (.if_icmp .lt 13, 3) := by decide +kernel
theorem dL_at_15 : decode bL_at 15 = .ok (.new 50, 3) := by decide +kernel
theorem dL_at_18 : decode bL_at 18 = .ok (.dup, 1) := by decide +kernel
theorem dL_at_19 : decode bL_at 19 = .ok (.ldc 52, 2) := by decide +kernel
theorem dL_at_21 : decode bL_at 21 = .ok (.invokespecial 54, 3) := by decide +kernel
theorem dL_at_24 : decode bL_at 24 = .ok (.athrow, 1) := by decide +kernel
theorem dL_at_25 : decode bL_at 25 = .ok (.aload_n 0, 1) := by decide +kernel
theorem dL_at_26 : decode bL_at 26 = .ok (.getfield 16, 3) := by decide +kernel
theorem dL_at_29 : decode bL_at 29 = .ok (.iload_n 1, 1) := by decide +kernel
theorem dL_at_30 : decode bL_at 30 = .ok (.invokevirtual 55, 3) := by decide +kernel
theorem dL_at_33 : decode bL_at 33 = .ok (.ireturn, 1) := by decide +kernel
theorem dT_numberAt_0 : decode bT_numberAt 0 = .ok (.iconst 0, 1) := by decide +kernel
theorem dT_numberAt_1 : decode bT_numberAt 1 = .ok (.istore_n 2, 1) := by decide +kernel
theorem dT_numberAt_2 : decode bT_numberAt 2 = .ok (.iload_n 1, 1) := by decide +kernel
theorem dT_numberAt_3 : decode bT_numberAt 3 = .ok (.istore_n 3, 1) := by decide +kernel
theorem dT_numberAt_4 : decode bT_numberAt 4 = .ok (.iconst 0, 1) := by decide +kernel
theorem dT_numberAt_5 : decode bT_numberAt 5 = .ok (.istore 4, 2) := by decide +kernel
theorem dT_numberAt_7 : decode bT_numberAt 7 = .ok (.iload 4, 2) := by decide +kernel
theorem dT_numberAt_9 : decode bT_numberAt 9 = .ok (.bipush 9, 2) := by decide +kernel
theorem dT_numberAt_11 : decode bT_numberAt 11 = .ok (.if_icmp .ge 43, 3) := by decide +kernel
theorem dT_numberAt_14 : decode bT_numberAt 14 = .ok (.aload_n 0, 1) := by decide +kernel
theorem dT_numberAt_15 : decode bT_numberAt 15 = .ok (.getfield 11, 3) := by decide +kernel
theorem dT_numberAt_18 : decode bT_numberAt 18 = .ok (.iload 4, 2) := by decide +kernel
theorem dT_numberAt_20 : decode bT_numberAt 20 = .ok (.aaload, 1) := by decide +kernel
theorem dT_numberAt_21 : decode bT_numberAt 21 = .ok (.iload_n 3, 1) := by decide +kernel
theorem dT_numberAt_22 : decode bT_numberAt 22 = .ok (.invokevirtual 47, 3) := by decide +kernel
theorem dT_numberAt_25 : decode bT_numberAt 25 = .ok (.istore 5, 2) := by decide +kernel
theorem dT_numberAt_27 : decode bT_numberAt 27 = .ok (.iload_n 2, 1) := by decide +kernel
theorem dT_numberAt_28 : decode bT_numberAt 28 = .ok (.iconst 2, 1) := by decide +kernel
theorem dT_numberAt_29 : decode bT_numberAt 29 = .ok (.imul, 1) := by decide +kernel
theorem dT_numberAt_30 : decode bT_numberAt 30 = .ok (.iload 5, 2) := by decide +kernel
theorem dT_numberAt_32 : decode bT_numberAt 32 = .ok (.iadd, 1) := by decide +kernel
theorem dT_numberAt_33 : decode bT_numberAt 33 = .ok (.istore_n 2, 1) := by decide +kernel
theorem dT_numberAt_34 : decode bT_numberAt 34 = .ok (.aload_n 0, 1) := by decide +kernel
theorem dT_numberAt_35 : decode bT_numberAt 35 = .ok (.getfield 11, 3) := by decide +kernel
theorem dT_numberAt_38 : decode bT_numberAt 38 = .ok (.iload 4, 2) := by decide +kernel
theorem dT_numberAt_40 : decode bT_numberAt 40 = .ok (.aaload, 1) := by decide +kernel
theorem dT_numberAt_41 : decode bT_numberAt 41 = .ok (.iload 5, 2) := by decide +kernel
theorem dT_numberAt_43 : decode bT_numberAt 43 = .ok (.iload_n 3, 1) := by decide +kernel
theorem dT_numberAt_44 : decode bT_numberAt 44 = .ok (.invokevirtual 50, 3) := by decide +kernel
theorem dT_numberAt_47 : decode bT_numberAt 47 = .ok (.istore_n 3, 1) := by decide +kernel
theorem dT_numberAt_48 : decode bT_numberAt 48 = .ok (.iinc 4 1, 3) := by decide +kernel
theorem dT_numberAt_51 : decode bT_numberAt 51 = .ok (.goto (-44), 3) := by decide +kernel
theorem dT_numberAt_54 : decode bT_numberAt 54 = .ok (.iload_n 2, 1) := by decide +kernel
theorem dT_numberAt_55 : decode bT_numberAt 55 = .ok (.ireturn, 1) := by decide +kernel
theorem dV_bitAt_0 : decode bV_bitAt 0 = .ok (.aload_n 0, 1) := by decide +kernel
theorem dV_bitAt_1 : decode bV_bitAt 1 = .ok (.getfield 9, 3) := by decide +kernel
theorem dV_bitAt_4 : decode bV_bitAt 4 = .ok (.iload_n 1, 1) := by decide +kernel
theorem dV_bitAt_5 : decode bV_bitAt 5 = .ok (.bipush 32, 2) := by decide +kernel
theorem dV_bitAt_7 : decode bV_bitAt 7 = .ok (.idiv, 1) := by decide +kernel
theorem dV_bitAt_8 : decode bV_bitAt 8 = .ok (.iaload, 1) := by decide +kernel
theorem dV_bitAt_9 : decode bV_bitAt 9 = .ok (.iload_n 1, 1) := by decide +kernel
theorem dV_bitAt_10 : decode bV_bitAt 10 = .ok (.bipush 32, 2) := by decide +kernel
theorem dV_bitAt_12 : decode bV_bitAt 12 = .ok (.irem, 1) := by decide +kernel
theorem dV_bitAt_13 : decode bV_bitAt 13 = .ok (.iushr, 1) := by decide +kernel
theorem dV_bitAt_14 : decode bV_bitAt 14 = .ok (.iconst 1, 1) := by decide +kernel
theorem dV_bitAt_15 : decode bV_bitAt 15 = .ok (.iand, 1) := by decide +kernel
theorem dV_bitAt_16 : decode bV_bitAt 16 = .ok (.ireturn, 1) := by decide +kernel
theorem dV_down_0 : decode bV_down 0 = .ok (.iload_n 1, 1) := by decide +kernel
theorem dV_down_1 : decode bV_down 1 = .ok (.iconst 1, 1) := by decide +kernel
theorem dV_down_2 : decode bV_down 2 = .ok (.if_icmp .ne 16, 3) := by decide +kernel
theorem dV_down_5 : decode bV_down 5 = .ok (.aload_n 0, 1) := by decide +kernel
theorem dV_down_6 : decode bV_down 6 = .ok (.getfield 22, 3) := by decide +kernel
theorem dV_down_9 : decode bV_down 9 = .ok (.aload_n 0, 1) := by decide +kernel
theorem dV_down_10 : decode bV_down 10 = .ok (.iload_n 2, 1) := by decide +kernel
theorem dV_down_11 : decode bV_down 11 = .ok (.invokevirtual 37, 3) := by decide +kernel
theorem dV_down_14 : decode bV_down 14 = .ok (.iadd, 1) := by decide +kernel
theorem dV_down_15 : decode bV_down 15 = .ok (.goto 10, 3) := by decide +kernel
theorem dV_down_18 : decode bV_down 18 = .ok (.iload_n 2, 1) := by decide +kernel
theorem dV_down_19 : decode bV_down 19 = .ok (.aload_n 0, 1) := by decide +kernel
theorem dV_down_20 : decode bV_down 20 = .ok (.iload_n 2, 1) := by decide +kernel
theorem dV_down_21 : decode bV_down 21 = .ok (.invokevirtual 37, 3) := by decide +kernel
theorem dV_down_24 : decode bV_down 24 = .ok (.isub, 1) := by decide +kernel
theorem dV_down_25 : decode bV_down 25 = .ok (.ireturn, 1) := by decide +kernel
theorem dV_onesBefore_0 : decode bV_onesBefore 0 = .ok (.iload_n 1, 1) := by decide +kernel
theorem dV_onesBefore_1 : decode bV_onesBefore 1 = .ok (.bipush 32, 2) := by decide +kernel
theorem dV_onesBefore_3 : decode bV_onesBefore 3 = .ok (.idiv, 1) := by decide +kernel
theorem dV_onesBefore_4 : decode bV_onesBefore 4 = .ok (.istore_n 2, 1) := by decide +kernel
theorem dV_onesBefore_5 : decode bV_onesBefore 5 = .ok (.iconst 1, 1) := by decide +kernel
theorem dV_onesBefore_6 : decode bV_onesBefore 6 = .ok (.iload_n 1, 1) := by decide +kernel
theorem dV_onesBefore_7 : decode bV_onesBefore 7 = .ok (.bipush 32, 2) := by decide +kernel
theorem dV_onesBefore_9 : decode bV_onesBefore 9 = .ok (.irem, 1) := by decide +kernel
theorem dV_onesBefore_10 : decode bV_onesBefore 10 = .ok (.ishl, 1) := by decide +kernel
theorem dV_onesBefore_11 : decode bV_onesBefore 11 = .ok (.iconst 1, 1) := by decide +kernel
theorem dV_onesBefore_12 : decode bV_onesBefore 12 = .ok (.isub, 1) := by decide +kernel
theorem dV_onesBefore_13 : decode bV_onesBefore 13 = .ok (.istore_n 3, 1) := by decide +kernel
theorem dV_onesBefore_14 : decode bV_onesBefore 14 = .ok (.aload_n 0, 1) := by decide +kernel
theorem dV_onesBefore_15 : decode bV_onesBefore 15 = .ok (.getfield 15, 3) := by decide +kernel
theorem dV_onesBefore_18 : decode bV_onesBefore 18 = .ok (.iload_n 2, 1) := by decide +kernel
theorem dV_onesBefore_19 : decode bV_onesBefore 19 = .ok (.iaload, 1) := by decide +kernel
theorem dV_onesBefore_20 : decode bV_onesBefore 20 = .ok (.aload_n 0, 1) := by decide +kernel
theorem dV_onesBefore_21 : decode bV_onesBefore 21 = .ok (.getfield 9, 3) := by decide +kernel
theorem dV_onesBefore_24 : decode bV_onesBefore 24 = .ok (.iload_n 2, 1) := by decide +kernel
theorem dV_onesBefore_25 : decode bV_onesBefore 25 = .ok (.iaload, 1) := by decide +kernel
theorem dV_onesBefore_26 : decode bV_onesBefore 26 = .ok (.iload_n 3, 1) := by decide +kernel
theorem dV_onesBefore_27 : decode bV_onesBefore 27 = .ok (.iand, 1) := by decide +kernel
theorem dV_onesBefore_28 : decode bV_onesBefore 28 = .ok (.invokestatic 31, 3) := by decide +kernel
theorem dV_onesBefore_31 : decode bV_onesBefore 31 = .ok (.iadd, 1) := by decide +kernel
theorem dV_onesBefore_32 : decode bV_onesBefore 32 = .ok (.ireturn, 1) := by decide +kernel
theorem dW_often_0 : decode bW_often 0 = .ok (.aload 4, 2) := by decide +kernel
theorem dW_often_2 : decode bW_often 2 = .ok (.iconst 0, 1) := by decide +kernel
theorem dW_often_3 : decode bW_often 3 = .ok (.aload_n 0, 1) := by decide +kernel
theorem dW_often_4 : decode bW_often 4 = .ok (.iload_n 1, 1) := by decide +kernel
theorem dW_often_5 : decode bW_often 5 = .ok (.iload_n 2, 1) := by decide +kernel
theorem dW_often_6 : decode bW_often 6 = .ok (.iload_n 3, 1) := by decide +kernel
theorem dW_often_7 : decode bW_often 7 = .ok (.invokevirtual 26, 3) := by decide +kernel
theorem dW_often_10 : decode bW_often 10 = .ok (.i2l, 1) := by decide +kernel
theorem dW_often_11 : decode bW_often 11 = .ok (.lastore, 1) := by decide +kernel
theorem dW_often_12 : decode bW_often 12 = .ok (.goto 7, 3) := by decide +kernel
theorem dW_often_15 : decode bW_often 15 = .ok (.astore 5, 2) := by decide +kernel
theorem dW_often_17 : decode bW_often 17 = .ok (.iconst 1, 1) := by decide +kernel
theorem dW_often_18 : decode bW_often 18 = .ok (.ireturn, 1) := by decide +kernel
theorem dW_often_19 : decode bW_often 19 = .ok (.iconst 0, 1) := by decide +kernel
theorem dW_often_20 : decode bW_often 20 = .ok (.ireturn, 1) := by decide +kernel
theorem dL_often_0 : decode bL_often 0 = .ok (.iload_n 1, 1) := by decide +kernel
theorem dL_often_1 : decode bL_often 1 = .ok (.sipush 511, 3) := by decide +kernel
theorem dL_often_4 : decode bL_often 4 = .ok (.invokestatic 59, 3) := by decide +kernel
theorem dL_often_7 : decode bL_often 7 = .ok (.aload_n 0, 1) := by decide +kernel
theorem dL_often_8 : decode bL_often 8 = .ok (.iload_n 2, 1) := by decide +kernel
theorem dL_often_9 : decode bL_often 9 = .ok (.iload_n 3, 1) := by decide +kernel
theorem dL_often_10 : decode bL_often 10 = .ok (.invokevirtual 63, 3) := by decide +kernel
theorem dL_often_13 : decode bL_often 13 = .ok (.aload_n 0, 1) := by decide +kernel
theorem dL_often_14 : decode bL_often 14 = .ok (.getfield 16, 3) := by decide +kernel
theorem dL_often_17 : decode bL_often 17 = .ok (.iload_n 1, 1) := by decide +kernel
theorem dL_often_18 : decode bL_often 18 = .ok (.iload_n 2, 1) := by decide +kernel
theorem dL_often_19 : decode bL_often 19 = .ok (.iload_n 3, 1) := by decide +kernel
theorem dL_often_20 : decode bL_often 20 = .ok (.invokevirtual 66, 3) := by decide +kernel
theorem dL_often_23 : decode bL_often 23 = .ok (.ireturn, 1) := by decide +kernel
theorem dL_checkNumber_0 : decode bL_checkNumber 0 = .ok (.iload_n 0, 1) := by decide +kernel
theorem dL_checkNumber_1 : decode bL_checkNumber 1 = .ok (.ifCond .lt 8, 3) := by decide +kernel
theorem dL_checkNumber_4 : decode bL_checkNumber 4 = .ok (.iload_n 0, 1) := by decide +kernel
theorem dL_checkNumber_5 : decode bL_checkNumber 5 = .ok (.iload_n 1, 1) := by decide +kernel
theorem dL_checkNumber_6 : decode bL_checkNumber 6 = .ok (.if_icmp .le 13, 3) := by decide +kernel
theorem dL_checkNumber_9 : decode bL_checkNumber 9 = .ok (.new 37, 3) := by decide +kernel
theorem dL_checkNumber_12 : decode bL_checkNumber 12 = .ok (.dup, 1) := by decide +kernel
theorem dL_checkNumber_13 : decode bL_checkNumber 13 = .ok (.ldc 92, 2) := by decide +kernel
theorem dL_checkNumber_15 : decode bL_checkNumber 15 = .ok (.invokespecial 41, 3) := by decide +kernel
theorem dL_checkNumber_18 : decode bL_checkNumber 18 = .ok (.athrow, 1) := by decide +kernel
theorem dL_checkNumber_19 : decode bL_checkNumber 19 = .ok (.return_, 1) := by decide +kernel
theorem dL_checkPart_0 : decode bL_checkPart 0 = .ok (.iload_n 1, 1) := by decide +kernel
theorem dL_checkPart_1 : decode bL_checkPart 1 = .ok (.ifCond .lt 19, 3) := by decide +kernel
theorem dL_checkPart_4 : decode bL_checkPart 4 = .ok (.iload_n 1, 1) := by decide +kernel
theorem dL_checkPart_5 : decode bL_checkPart 5 = .ok (.iload_n 2, 1) := by decide +kernel
theorem dL_checkPart_6 : decode bL_checkPart 6 = .ok (.if_icmp .gt 14, 3) := by decide +kernel
theorem dL_checkPart_9 : decode bL_checkPart 9 = .ok (.iload_n 2, 1) := by decide +kernel
theorem dL_checkPart_10 : decode bL_checkPart 10 = .ok (.aload_n 0, 1) := by decide +kernel
theorem dL_checkPart_11 : decode bL_checkPart 11 = .ok (.getfield 16, 3) := by decide +kernel
theorem dL_checkPart_14 : decode bL_checkPart 14 = .ok (.invokevirtual 46, 3) := by decide +kernel
theorem dL_checkPart_17 : decode bL_checkPart 17 = .ok (.if_icmp .le 13, 3) := by decide +kernel
theorem dL_checkPart_20 : decode bL_checkPart 20 = .ok (.new 37, 3) := by decide +kernel
theorem dL_checkPart_23 : decode bL_checkPart 23 = .ok (.dup, 1) := by decide +kernel
theorem dL_checkPart_24 : decode bL_checkPart 24 = .ok (.ldc 94, 2) := by decide +kernel
theorem dL_checkPart_26 : decode bL_checkPart 26 = .ok (.invokespecial 41, 3) := by decide +kernel
theorem dL_checkPart_29 : decode bL_checkPart 29 = .ok (.athrow, 1) := by decide +kernel
theorem dL_checkPart_30 : decode bL_checkPart 30 = .ok (.return_, 1) := by decide +kernel
theorem dT_timesOf_0 : decode bT_timesOf 0 = .ok (.aload_n 0, 1) := by decide +kernel
theorem dT_timesOf_1 : decode bT_timesOf 1 = .ok (.iload_n 1, 1) := by decide +kernel
theorem dT_timesOf_2 : decode bT_timesOf 2 = .ok (.iload_n 3, 1) := by decide +kernel
theorem dT_timesOf_3 : decode bT_timesOf 3 = .ok (.invokevirtual 54, 3) := by decide +kernel
theorem dT_timesOf_6 : decode bT_timesOf 6 = .ok (.aload_n 0, 1) := by decide +kernel
theorem dT_timesOf_7 : decode bT_timesOf 7 = .ok (.iload_n 1, 1) := by decide +kernel
theorem dT_timesOf_8 : decode bT_timesOf 8 = .ok (.iload_n 2, 1) := by decide +kernel
theorem dT_timesOf_9 : decode bT_timesOf 9 = .ok (.invokevirtual 54, 3) := by decide +kernel
theorem dT_timesOf_12 : decode bT_timesOf 12 = .ok (.isub, 1) := by decide +kernel
theorem dT_timesOf_13 : decode bT_timesOf 13 = .ok (.ireturn, 1) := by decide +kernel
theorem dT_bottomOf_0 : decode bT_bottomOf 0 = .ok (.iload_n 2, 1) := by decide +kernel
theorem dT_bottomOf_1 : decode bT_bottomOf 1 = .ok (.istore_n 3, 1) := by decide +kernel
theorem dT_bottomOf_2 : decode bT_bottomOf 2 = .ok (.iconst 0, 1) := by decide +kernel
theorem dT_bottomOf_3 : decode bT_bottomOf 3 = .ok (.istore 4, 2) := by decide +kernel
theorem dT_bottomOf_5 : decode bT_bottomOf 5 = .ok (.iload 4, 2) := by decide +kernel
theorem dT_bottomOf_7 : decode bT_bottomOf 7 = .ok (.bipush 9, 2) := by decide +kernel
theorem dT_bottomOf_9 : decode bT_bottomOf 9 = .ok (.if_icmp .ge 30, 3) := by decide +kernel
theorem dT_bottomOf_12 : decode bT_bottomOf 12 = .ok (.aload_n 0, 1) := by decide +kernel
theorem dT_bottomOf_13 : decode bT_bottomOf 13 = .ok (.getfield 11, 3) := by decide +kernel
theorem dT_bottomOf_16 : decode bT_bottomOf 16 = .ok (.iload 4, 2) := by decide +kernel
theorem dT_bottomOf_18 : decode bT_bottomOf 18 = .ok (.aaload, 1) := by decide +kernel
theorem dT_bottomOf_19 : decode bT_bottomOf 19 = .ok (.iload_n 1, 1) := by decide +kernel
theorem dT_bottomOf_20 : decode bT_bottomOf 20 = .ok (.iload 4, 2) := by decide +kernel
theorem dT_bottomOf_22 : decode bT_bottomOf 22 = .ok (.invokestatic 35, 3) := by decide +kernel
theorem dT_bottomOf_25 : decode bT_bottomOf 25 = .ok (.ishr, 1) := by decide +kernel
theorem dT_bottomOf_26 : decode bT_bottomOf 26 = .ok (.iconst 1, 1) := by decide +kernel
theorem dT_bottomOf_27 : decode bT_bottomOf 27 = .ok (.iand, 1) := by decide +kernel
theorem dT_bottomOf_28 : decode bT_bottomOf 28 = .ok (.iload_n 3, 1) := by decide +kernel
theorem dT_bottomOf_29 : decode bT_bottomOf 29 = .ok (.invokevirtual 50, 3) := by decide +kernel
theorem dT_bottomOf_32 : decode bT_bottomOf 32 = .ok (.istore_n 3, 1) := by decide +kernel
theorem dT_bottomOf_33 : decode bT_bottomOf 33 = .ok (.iinc 4 1, 3) := by decide +kernel
theorem dT_bottomOf_36 : decode bT_bottomOf 36 = .ok (.goto (-31), 3) := by decide +kernel
theorem dT_bottomOf_39 : decode bT_bottomOf 39 = .ok (.iload_n 3, 1) := by decide +kernel
theorem dT_bottomOf_40 : decode bT_bottomOf 40 = .ok (.ireturn, 1) := by decide +kernel
theorem dW_place_0 : decode bW_place 0 = .ok (.aload_n 3, 1) := by decide +kernel
theorem dW_place_1 : decode bW_place 1 = .ok (.iconst 0, 1) := by decide +kernel
theorem dW_place_2 : decode bW_place 2 = .ok (.aload_n 0, 1) := by decide +kernel
theorem dW_place_3 : decode bW_place 3 = .ok (.iload_n 1, 1) := by decide +kernel
theorem dW_place_4 : decode bW_place 4 = .ok (.iload_n 2, 1) := by decide +kernel
theorem dW_place_5 : decode bW_place 5 = .ok (.invokevirtual 29, 3) := by decide +kernel
theorem dW_place_8 : decode bW_place 8 = .ok (.i2l, 1) := by decide +kernel
theorem dW_place_9 : decode bW_place 9 = .ok (.lastore, 1) := by decide +kernel
theorem dW_place_10 : decode bW_place 10 = .ok (.goto 11, 3) := by decide +kernel
theorem dW_place_13 : decode bW_place 13 = .ok (.astore 4, 2) := by decide +kernel
theorem dW_place_15 : decode bW_place 15 = .ok (.iconst 1, 1) := by decide +kernel
theorem dW_place_16 : decode bW_place 16 = .ok (.ireturn, 1) := by decide +kernel
theorem dW_place_17 : decode bW_place 17 = .ok (.astore 4, 2) := by decide +kernel
theorem dW_place_19 : decode bW_place 19 = .ok (.iconst 2, 1) := by decide +kernel
theorem dW_place_20 : decode bW_place 20 = .ok (.ireturn, 1) := by decide +kernel
theorem dW_place_21 : decode bW_place 21 = .ok (.iconst 0, 1) := by decide +kernel
theorem dW_place_22 : decode bW_place 22 = .ok (.ireturn, 1) := by decide +kernel
theorem dL_place_0 : decode bL_place 0 = .ok (.iload_n 1, 1) := by decide +kernel
theorem dL_place_1 : decode bL_place 1 = .ok (.sipush 511, 3) := by decide +kernel
theorem dL_place_4 : decode bL_place 4 = .ok (.invokestatic 59, 3) := by decide +kernel
theorem dL_place_7 : decode bL_place 7 = .ok (.iload_n 2, 1) := by decide +kernel
theorem dL_place_8 : decode bL_place 8 = .ok (.ifCond .lt 23, 3) := by decide +kernel
theorem dL_place_11 : decode bL_place 11 = .ok (.iload_n 2, 1) := by decide +kernel
theorem dL_place_12 : decode bL_place 12 = .ok (.aload_n 0, 1) := by decide +kernel
theorem dL_place_13 : decode bL_place 13 = .ok (.getfield 16, 3) := by decide +kernel
theorem dL_place_16 : decode bL_place 16 = .ok (.iload_n 1, 1) := by decide +kernel
theorem dL_place_17 : decode bL_place 17 = .ok (.iconst 0, 1) := by decide +kernel
theorem dL_place_18 : decode bL_place 18 = .ok (.aload_n 0, 1) := by decide +kernel
theorem dL_place_19 : decode bL_place 19 = .ok (.getfield 16, 3) := by decide +kernel
theorem dL_place_22 : decode bL_place 22 = .ok (.invokevirtual 46, 3) := by decide +kernel
theorem dL_place_25 : decode bL_place 25 = .ok (.invokevirtual 66, 3) := by decide +kernel
theorem dL_place_28 : decode bL_place 28 = .ok (.if_icmp .lt 13, 3) := by decide +kernel
theorem dL_place_31 : decode bL_place 31 = .ok (.new 50, 3) := by decide +kernel
theorem dL_place_34 : decode bL_place 34 = .ok (.dup, 1) := by decide +kernel
theorem dL_place_35 : decode bL_place 35 = .ok (.ldc 70, 2) := by decide +kernel
theorem dL_place_37 : decode bL_place 37 = .ok (.invokespecial 54, 3) := by decide +kernel
theorem dL_place_40 : decode bL_place 40 = .ok (.athrow, 1) := by decide +kernel
theorem dL_place_41 : decode bL_place 41 = .ok (.aload_n 0, 1) := by decide +kernel
theorem dL_place_42 : decode bL_place 42 = .ok (.getfield 16, 3) := by decide +kernel
theorem dL_place_45 : decode bL_place 45 = .ok (.iload_n 1, 1) := by decide +kernel
theorem dL_place_46 : decode bL_place 46 = .ok (.iload_n 2, 1) := by decide +kernel
theorem dL_place_47 : decode bL_place 47 = .ok (.invokevirtual 72, 3) := by decide +kernel
theorem dL_place_50 : decode bL_place 50 = .ok (.ireturn, 1) := by decide +kernel
theorem dT_placeOf_0 : decode bT_placeOf 0 = .ok (.aload_n 0, 1) := by decide +kernel
theorem dT_placeOf_1 : decode bT_placeOf 1 = .ok (.iload_n 1, 1) := by decide +kernel
theorem dT_placeOf_2 : decode bT_placeOf 2 = .ok (.iconst 0, 1) := by decide +kernel
theorem dT_placeOf_3 : decode bT_placeOf 3 = .ok (.invokevirtual 54, 3) := by decide +kernel
theorem dT_placeOf_6 : decode bT_placeOf 6 = .ok (.iload_n 2, 1) := by decide +kernel
theorem dT_placeOf_7 : decode bT_placeOf 7 = .ok (.iadd, 1) := by decide +kernel
theorem dT_placeOf_8 : decode bT_placeOf 8 = .ok (.istore_n 3, 1) := by decide +kernel
theorem dT_placeOf_9 : decode bT_placeOf 9 = .ok (.bipush 8, 2) := by decide +kernel
theorem dT_placeOf_11 : decode bT_placeOf 11 = .ok (.istore 4, 2) := by decide +kernel
theorem dT_placeOf_13 : decode bT_placeOf 13 = .ok (.iload 4, 2) := by decide +kernel
theorem dT_placeOf_15 : decode bT_placeOf 15 = .ok (.ifCond .lt 30, 3) := by decide +kernel
theorem dT_placeOf_18 : decode bT_placeOf 18 = .ok (.aload_n 0, 1) := by decide +kernel
theorem dT_placeOf_19 : decode bT_placeOf 19 = .ok (.getfield 11, 3) := by decide +kernel
theorem dT_placeOf_22 : decode bT_placeOf 22 = .ok (.iload 4, 2) := by decide +kernel
theorem dT_placeOf_24 : decode bT_placeOf 24 = .ok (.aaload, 1) := by decide +kernel
theorem dT_placeOf_25 : decode bT_placeOf 25 = .ok (.iload_n 1, 1) := by decide +kernel
theorem dT_placeOf_26 : decode bT_placeOf 26 = .ok (.iload 4, 2) := by decide +kernel
theorem dT_placeOf_28 : decode bT_placeOf 28 = .ok (.invokestatic 35, 3) := by decide +kernel
theorem dT_placeOf_31 : decode bT_placeOf 31 = .ok (.ishr, 1) := by decide +kernel
theorem dT_placeOf_32 : decode bT_placeOf 32 = .ok (.iconst 1, 1) := by decide +kernel
theorem dT_placeOf_33 : decode bT_placeOf 33 = .ok (.iand, 1) := by decide +kernel
theorem dT_placeOf_34 : decode bT_placeOf 34 = .ok (.iload_n 3, 1) := by decide +kernel
theorem dT_placeOf_35 : decode bT_placeOf 35 = .ok (.invokevirtual 57, 3) := by decide +kernel
theorem dT_placeOf_38 : decode bT_placeOf 38 = .ok (.istore_n 3, 1) := by decide +kernel
theorem dT_placeOf_39 : decode bT_placeOf 39 = .ok (.iinc 4 (-1), 3) := by decide +kernel
theorem dT_placeOf_42 : decode bT_placeOf 42 = .ok (.goto (-29), 3) := by decide +kernel
theorem dT_placeOf_45 : decode bT_placeOf 45 = .ok (.iload_n 3, 1) := by decide +kernel
theorem dT_placeOf_46 : decode bT_placeOf 46 = .ok (.ireturn, 1) := by decide +kernel
theorem dV_up_0 : decode bV_up 0 = .ok (.iconst 0, 1) := by decide +kernel
theorem dV_up_1 : decode bV_up 1 = .ok (.istore_n 3, 1) := by decide +kernel
theorem dV_up_2 : decode bV_up 2 = .ok (.sipush 2048, 3) := by decide +kernel
theorem dV_up_5 : decode bV_up 5 = .ok (.istore 4, 2) := by decide +kernel
theorem dV_up_7 : decode bV_up 7 = .ok (.iload 4, 2) := by decide +kernel
theorem dV_up_9 : decode bV_up 9 = .ok (.ifCond .le 41, 3) := by decide +kernel
theorem dV_up_12 : decode bV_up 12 = .ok (.iload_n 3, 1) := by decide +kernel
theorem dV_up_13 : decode bV_up 13 = .ok (.iload 4, 2) := by decide +kernel
theorem dV_up_15 : decode bV_up 15 = .ok (.iadd, 1) := by decide +kernel
theorem dV_up_16 : decode bV_up 16 = .ok (.aload_n 0, 1) := by decide +kernel
theorem dV_up_17 : decode bV_up 17 = .ok (.getfield 18, 3) := by decide +kernel
theorem dV_up_20 : decode bV_up 20 = .ok (.if_icmp .ge 21, 3) := by decide +kernel
theorem dV_up_23 : decode bV_up 23 = .ok (.aload_n 0, 1) := by decide +kernel
theorem dV_up_24 : decode bV_up 24 = .ok (.iload_n 1, 1) := by decide +kernel
theorem dV_up_25 : decode bV_up 25 = .ok (.iload_n 3, 1) := by decide +kernel
theorem dV_up_26 : decode bV_up 26 = .ok (.iload 4, 2) := by decide +kernel
theorem dV_up_28 : decode bV_up 28 = .ok (.iadd, 1) := by decide +kernel
theorem dV_up_29 : decode bV_up 29 = .ok (.invokevirtual 40, 3) := by decide +kernel
theorem dV_up_32 : decode bV_up 32 = .ok (.iload_n 2, 1) := by decide +kernel
theorem dV_up_33 : decode bV_up 33 = .ok (.if_icmp .gt 8, 3) := by decide +kernel
theorem dV_up_36 : decode bV_up 36 = .ok (.iload_n 3, 1) := by decide +kernel
theorem dV_up_37 : decode bV_up 37 = .ok (.iload 4, 2) := by decide +kernel
theorem dV_up_39 : decode bV_up 39 = .ok (.iadd, 1) := by decide +kernel
theorem dV_up_40 : decode bV_up 40 = .ok (.istore_n 3, 1) := by decide +kernel
theorem dV_up_41 : decode bV_up 41 = .ok (.iload 4, 2) := by decide +kernel
theorem dV_up_43 : decode bV_up 43 = .ok (.iconst 2, 1) := by decide +kernel
theorem dV_up_44 : decode bV_up 44 = .ok (.idiv, 1) := by decide +kernel
theorem dV_up_45 : decode bV_up 45 = .ok (.istore 4, 2) := by decide +kernel
theorem dV_up_47 : decode bV_up 47 = .ok (.goto (-40), 3) := by decide +kernel
theorem dV_up_50 : decode bV_up 50 = .ok (.iload_n 3, 1) := by decide +kernel
theorem dV_up_51 : decode bV_up 51 = .ok (.ireturn, 1) := by decide +kernel
theorem dW_least_0 : decode bW_least 0 = .ok (.aload 4, 2) := by decide +kernel
theorem dW_least_2 : decode bW_least 2 = .ok (.iconst 0, 1) := by decide +kernel
theorem dW_least_3 : decode bW_least 3 = .ok (.aload_n 0, 1) := by decide +kernel
theorem dW_least_4 : decode bW_least 4 = .ok (.iload_n 1, 1) := by decide +kernel
theorem dW_least_5 : decode bW_least 5 = .ok (.iload_n 2, 1) := by decide +kernel
theorem dW_least_6 : decode bW_least 6 = .ok (.iload_n 3, 1) := by decide +kernel
theorem dW_least_7 : decode bW_least 7 = .ok (.invokevirtual 33, 3) := by decide +kernel
theorem dW_least_10 : decode bW_least 10 = .ok (.i2l, 1) := by decide +kernel
theorem dW_least_11 : decode bW_least 11 = .ok (.lastore, 1) := by decide +kernel
theorem dW_least_12 : decode bW_least 12 = .ok (.goto 11, 3) := by decide +kernel
theorem dW_least_15 : decode bW_least 15 = .ok (.astore 5, 2) := by decide +kernel
theorem dW_least_17 : decode bW_least 17 = .ok (.iconst 1, 1) := by decide +kernel
theorem dW_least_18 : decode bW_least 18 = .ok (.ireturn, 1) := by decide +kernel
theorem dW_least_19 : decode bW_least 19 = .ok (.astore 5, 2) := by decide +kernel
theorem dW_least_21 : decode bW_least 21 = .ok (.iconst 2, 1) := by decide +kernel
theorem dW_least_22 : decode bW_least 22 = .ok (.ireturn, 1) := by decide +kernel
theorem dW_least_23 : decode bW_least 23 = .ok (.iconst 0, 1) := by decide +kernel
theorem dW_least_24 : decode bW_least 24 = .ok (.ireturn, 1) := by decide +kernel
theorem dL_least_0 : decode bL_least 0 = .ok (.aload_n 0, 1) := by decide +kernel
theorem dL_least_1 : decode bL_least 1 = .ok (.iload_n 1, 1) := by decide +kernel
theorem dL_least_2 : decode bL_least 2 = .ok (.iload_n 2, 1) := by decide +kernel
theorem dL_least_3 : decode bL_least 3 = .ok (.invokevirtual 63, 3) := by decide +kernel
theorem dL_least_6 : decode bL_least 6 = .ok (.iload_n 3, 1) := by decide +kernel
theorem dL_least_7 : decode bL_least 7 = .ok (.ifCond .lt 10, 3) := by decide +kernel
theorem dL_least_10 : decode bL_least 10 = .ok (.iload_n 3, 1) := by decide +kernel
theorem dL_least_11 : decode bL_least 11 = .ok (.iload_n 2, 1) := by decide +kernel
theorem dL_least_12 : decode bL_least 12 = .ok (.iload_n 1, 1) := by decide +kernel
theorem dL_least_13 : decode bL_least 13 = .ok (.isub, 1) := by decide +kernel
theorem dL_least_14 : decode bL_least 14 = .ok (.if_icmp .lt 13, 3) := by decide +kernel
theorem dL_least_17 : decode bL_least 17 = .ok (.new 50, 3) := by decide +kernel
theorem dL_least_20 : decode bL_least 20 = .ok (.dup, 1) := by decide +kernel
theorem dL_least_21 : decode bL_least 21 = .ok (.ldc 76, 2) := by decide +kernel
theorem dL_least_23 : decode bL_least 23 = .ok (.invokespecial 54, 3) := by decide +kernel
theorem dL_least_26 : decode bL_least 26 = .ok (.athrow, 1) := by decide +kernel
theorem dL_least_27 : decode bL_least 27 = .ok (.aload_n 0, 1) := by decide +kernel
theorem dL_least_28 : decode bL_least 28 = .ok (.getfield 16, 3) := by decide +kernel
theorem dL_least_31 : decode bL_least 31 = .ok (.iload_n 1, 1) := by decide +kernel
theorem dL_least_32 : decode bL_least 32 = .ok (.iload_n 2, 1) := by decide +kernel
theorem dL_least_33 : decode bL_least 33 = .ok (.iload_n 3, 1) := by decide +kernel
theorem dL_least_34 : decode bL_least 34 = .ok (.invokevirtual 78, 3) := by decide +kernel
theorem dL_least_37 : decode bL_least 37 = .ok (.invokestatic 81, 3) := by decide +kernel
theorem dL_least_40 : decode bL_least 40 = .ok (.ireturn, 1) := by decide +kernel
theorem dT_groupOf_0 : decode bT_groupOf 0 = .ok (.iconst 0, 1) := by decide +kernel
theorem dT_groupOf_1 : decode bT_groupOf 1 = .ok (.istore 4, 2) := by decide +kernel
theorem dT_groupOf_3 : decode bT_groupOf 3 = .ok (.iload_n 1, 1) := by decide +kernel
theorem dT_groupOf_4 : decode bT_groupOf 4 = .ok (.istore 5, 2) := by decide +kernel
theorem dT_groupOf_6 : decode bT_groupOf 6 = .ok (.iload_n 2, 1) := by decide +kernel
theorem dT_groupOf_7 : decode bT_groupOf 7 = .ok (.istore 6, 2) := by decide +kernel
theorem dT_groupOf_9 : decode bT_groupOf 9 = .ok (.iload_n 3, 1) := by decide +kernel
theorem dT_groupOf_10 : decode bT_groupOf 10 = .ok (.istore 7, 2) := by decide +kernel
theorem dT_groupOf_12 : decode bT_groupOf 12 = .ok (.iconst 0, 1) := by decide +kernel
theorem dT_groupOf_13 : decode bT_groupOf 13 = .ok (.istore 8, 2) := by decide +kernel
theorem dT_groupOf_15 : decode bT_groupOf 15 = .ok (.iload 8, 2) := by decide +kernel
theorem dT_groupOf_17 : decode bT_groupOf 17 = .ok (.bipush 9, 2) := by decide +kernel
theorem dT_groupOf_19 : decode bT_groupOf 19 = .ok (.if_icmp .ge 95, 3) := by decide +kernel
theorem dT_groupOf_22 : decode bT_groupOf 22 = .ok (.aload_n 0, 1) := by decide +kernel
theorem dT_groupOf_23 : decode bT_groupOf 23 = .ok (.getfield 11, 3) := by decide +kernel
theorem dT_groupOf_26 : decode bT_groupOf 26 = .ok (.iload 8, 2) := by decide +kernel
theorem dT_groupOf_28 : decode bT_groupOf 28 = .ok (.aaload, 1) := by decide +kernel
theorem dT_groupOf_29 : decode bT_groupOf 29 = .ok (.astore 9, 2) := by decide +kernel
theorem dT_groupOf_31 : decode bT_groupOf 31 = .ok (.aload 9, 2) := by decide +kernel
theorem dT_groupOf_33 : decode bT_groupOf 33 = .ok (.iconst 0, 1) := by decide +kernel
theorem dT_groupOf_34 : decode bT_groupOf 34 = .ok (.iload 6, 2) := by decide +kernel
theorem dT_groupOf_36 : decode bT_groupOf 36 = .ok (.invokevirtual 50, 3) := by decide +kernel
theorem dT_groupOf_39 : decode bT_groupOf 39 = .ok (.aload 9, 2) := by decide +kernel
theorem dT_groupOf_41 : decode bT_groupOf 41 = .ok (.iconst 0, 1) := by decide +kernel
theorem dT_groupOf_42 : decode bT_groupOf 42 = .ok (.iload 5, 2) := by decide +kernel
theorem dT_groupOf_44 : decode bT_groupOf 44 = .ok (.invokevirtual 50, 3) := by decide +kernel
theorem dT_groupOf_47 : decode bT_groupOf 47 = .ok (.isub, 1) := by decide +kernel
theorem dT_groupOf_48 : decode bT_groupOf 48 = .ok (.istore 10, 2) := by decide +kernel
theorem dT_groupOf_50 : decode bT_groupOf 50 = .ok (.iload 7, 2) := by decide +kernel
theorem dT_groupOf_52 : decode bT_groupOf 52 = .ok (.iload 10, 2) := by decide +kernel
theorem dT_groupOf_54 : decode bT_groupOf 54 = .ok (.if_icmp .ge 7, 3) := by decide +kernel
theorem dT_groupOf_57 : decode bT_groupOf 57 = .ok (.iconst 0, 1) := by decide +kernel
theorem dT_groupOf_58 : decode bT_groupOf 58 = .ok (.goto 4, 3) := by decide +kernel
theorem dT_groupOf_61 : decode bT_groupOf 61 = .ok (.iconst 1, 1) := by decide +kernel
theorem dT_groupOf_62 : decode bT_groupOf 62 = .ok (.istore 11, 2) := by decide +kernel
theorem dT_groupOf_64 : decode bT_groupOf 64 = .ok (.iload 11, 2) := by decide +kernel
theorem dT_groupOf_66 : decode bT_groupOf 66 = .ok (.iconst 1, 1) := by decide +kernel
theorem dT_groupOf_67 : decode bT_groupOf 67 = .ok (.if_icmp .ne 10, 3) := by decide +kernel
theorem dT_groupOf_70 : decode bT_groupOf 70 = .ok (.iload 7, 2) := by decide +kernel
theorem dT_groupOf_72 : decode bT_groupOf 72 = .ok (.iload 10, 2) := by decide +kernel
theorem dT_groupOf_74 : decode bT_groupOf 74 = .ok (.isub, 1) := by decide +kernel
theorem dT_groupOf_75 : decode bT_groupOf 75 = .ok (.istore 7, 2) := by decide +kernel
theorem dT_groupOf_77 : decode bT_groupOf 77 = .ok (.iload 4, 2) := by decide +kernel
theorem dT_groupOf_79 : decode bT_groupOf 79 = .ok (.iconst 2, 1) := by decide +kernel
theorem dT_groupOf_80 : decode bT_groupOf 80 = .ok (.imul, 1) := by decide +kernel
theorem dT_groupOf_81 : decode bT_groupOf 81 = .ok (.iload 11, 2) := by decide +kernel
theorem dT_groupOf_83 : decode bT_groupOf 83 = .ok (.iadd, 1) := by decide +kernel
theorem dT_groupOf_84 : decode bT_groupOf 84 = .ok (.istore 4, 2) := by decide +kernel
theorem dT_groupOf_86 : decode bT_groupOf 86 = .ok (.aload 9, 2) := by decide +kernel
theorem dT_groupOf_88 : decode bT_groupOf 88 = .ok (.iload 11, 2) := by decide +kernel
theorem dT_groupOf_90 : decode bT_groupOf 90 = .ok (.iload 5, 2) := by decide +kernel
theorem dT_groupOf_92 : decode bT_groupOf 92 = .ok (.invokevirtual 50, 3) := by decide +kernel
theorem dT_groupOf_95 : decode bT_groupOf 95 = .ok (.istore 5, 2) := by decide +kernel
theorem dT_groupOf_97 : decode bT_groupOf 97 = .ok (.aload 9, 2) := by decide +kernel
theorem dT_groupOf_99 : decode bT_groupOf 99 = .ok (.iload 11, 2) := by decide +kernel
theorem dT_groupOf_101 : decode bT_groupOf 101 = .ok (.iload 6, 2) := by decide +kernel
theorem dT_groupOf_103 : decode bT_groupOf 103 = .ok (.invokevirtual 50, 3) := by decide +kernel
theorem dT_groupOf_106 : decode bT_groupOf 106 = .ok (.istore 6, 2) := by decide +kernel
theorem dT_groupOf_108 : decode bT_groupOf 108 = .ok (.iinc 8 1, 3) := by decide +kernel
theorem dT_groupOf_111 : decode bT_groupOf 111 = .ok (.goto (-96), 3) := by decide +kernel
theorem dT_groupOf_114 : decode bT_groupOf 114 = .ok (.iload 4, 2) := by decide +kernel
theorem dT_groupOf_116 : decode bT_groupOf 116 = .ok (.sipush 4096, 3) := by decide +kernel
theorem dT_groupOf_119 : decode bT_groupOf 119 = .ok (.imul, 1) := by decide +kernel
theorem dT_groupOf_120 : decode bT_groupOf 120 = .ok (.iload 6, 2) := by decide +kernel
theorem dT_groupOf_122 : decode bT_groupOf 122 = .ok (.iload 5, 2) := by decide +kernel
theorem dT_groupOf_124 : decode bT_groupOf 124 = .ok (.isub, 1) := by decide +kernel
theorem dT_groupOf_125 : decode bT_groupOf 125 = .ok (.iadd, 1) := by decide +kernel
theorem dT_groupOf_126 : decode bT_groupOf 126 = .ok (.ireturn, 1) := by decide +kernel
theorem dL_numberOf_0 : decode bL_numberOf 0 = .ok (.iload_n 0, 1) := by decide +kernel
theorem dL_numberOf_1 : decode bL_numberOf 1 = .ok (.sipush 4096, 3) := by decide +kernel
theorem dL_numberOf_4 : decode bL_numberOf 4 = .ok (.idiv, 1) := by decide +kernel
theorem dL_numberOf_5 : decode bL_numberOf 5 = .ok (.ireturn, 1) := by decide +kernel
theorem dW_below_0 : decode bW_below 0 = .ok (.aload 4, 2) := by decide +kernel
theorem dW_below_2 : decode bW_below 2 = .ok (.iconst 0, 1) := by decide +kernel
theorem dW_below_3 : decode bW_below 3 = .ok (.aload_n 0, 1) := by decide +kernel
theorem dW_below_4 : decode bW_below 4 = .ok (.iload_n 1, 1) := by decide +kernel
theorem dW_below_5 : decode bW_below 5 = .ok (.iload_n 2, 1) := by decide +kernel
theorem dW_below_6 : decode bW_below 6 = .ok (.iload_n 3, 1) := by decide +kernel
theorem dW_below_7 : decode bW_below 7 = .ok (.invokevirtual 36, 3) := by decide +kernel
theorem dW_below_10 : decode bW_below 10 = .ok (.i2l, 1) := by decide +kernel
theorem dW_below_11 : decode bW_below 11 = .ok (.lastore, 1) := by decide +kernel
theorem dW_below_12 : decode bW_below 12 = .ok (.goto 7, 3) := by decide +kernel
theorem dW_below_15 : decode bW_below 15 = .ok (.astore 5, 2) := by decide +kernel
theorem dW_below_17 : decode bW_below 17 = .ok (.iconst 1, 1) := by decide +kernel
theorem dW_below_18 : decode bW_below 18 = .ok (.ireturn, 1) := by decide +kernel
theorem dW_below_19 : decode bW_below 19 = .ok (.iconst 0, 1) := by decide +kernel
theorem dW_below_20 : decode bW_below 20 = .ok (.ireturn, 1) := by decide +kernel
theorem dL_below_0 : decode bL_below 0 = .ok (.iload_n 1, 1) := by decide +kernel
theorem dL_below_1 : decode bL_below 1 = .ok (.sipush 512, 3) := by decide +kernel
theorem dL_below_4 : decode bL_below 4 = .ok (.invokestatic 59, 3) := by decide +kernel
theorem dL_below_7 : decode bL_below 7 = .ok (.aload_n 0, 1) := by decide +kernel
theorem dL_below_8 : decode bL_below 8 = .ok (.iload_n 2, 1) := by decide +kernel
theorem dL_below_9 : decode bL_below 9 = .ok (.iload_n 3, 1) := by decide +kernel
theorem dL_below_10 : decode bL_below 10 = .ok (.invokevirtual 63, 3) := by decide +kernel
theorem dL_below_13 : decode bL_below 13 = .ok (.aload_n 0, 1) := by decide +kernel
theorem dL_below_14 : decode bL_below 14 = .ok (.getfield 16, 3) := by decide +kernel
theorem dL_below_17 : decode bL_below 17 = .ok (.iload_n 1, 1) := by decide +kernel
theorem dL_below_18 : decode bL_below 18 = .ok (.iload_n 2, 1) := by decide +kernel
theorem dL_below_19 : decode bL_below 19 = .ok (.iload_n 3, 1) := by decide +kernel
theorem dL_below_20 : decode bL_below 20 = .ok (.invokevirtual 84, 3) := by decide +kernel
theorem dL_below_23 : decode bL_below 23 = .ok (.ireturn, 1) := by decide +kernel
theorem dT_countBelow_0 : decode bT_countBelow 0 = .ok (.iload_n 1, 1) := by decide +kernel
theorem dT_countBelow_1 : decode bT_countBelow 1 = .ok (.sipush 512, 3) := by decide +kernel
theorem dT_countBelow_4 : decode bT_countBelow 4 = .ok (.if_icmp .lt 7, 3) := by decide +kernel
theorem dT_countBelow_7 : decode bT_countBelow 7 = .ok (.iload_n 3, 1) := by decide +kernel
theorem dT_countBelow_8 : decode bT_countBelow 8 = .ok (.iload_n 2, 1) := by decide +kernel
theorem dT_countBelow_9 : decode bT_countBelow 9 = .ok (.isub, 1) := by decide +kernel
theorem dT_countBelow_10 : decode bT_countBelow 10 = .ok (.ireturn, 1) := by decide +kernel
theorem dT_countBelow_11 : decode bT_countBelow 11 = .ok (.iconst 0, 1) := by decide +kernel
theorem dT_countBelow_12 : decode bT_countBelow 12 = .ok (.istore 4, 2) := by decide +kernel
theorem dT_countBelow_14 : decode bT_countBelow 14 = .ok (.iload_n 2, 1) := by decide +kernel
theorem dT_countBelow_15 : decode bT_countBelow 15 = .ok (.istore 5, 2) := by decide +kernel
theorem dT_countBelow_17 : decode bT_countBelow 17 = .ok (.iload_n 3, 1) := by decide +kernel
theorem dT_countBelow_18 : decode bT_countBelow 18 = .ok (.istore 6, 2) := by decide +kernel
theorem dT_countBelow_20 : decode bT_countBelow 20 = .ok (.iconst 0, 1) := by decide +kernel
theorem dT_countBelow_21 : decode bT_countBelow 21 = .ok (.istore 7, 2) := by decide +kernel
theorem dT_countBelow_23 : decode bT_countBelow 23 = .ok (.iload 7, 2) := by decide +kernel
theorem dT_countBelow_25 : decode bT_countBelow 25 = .ok (.bipush 9, 2) := by decide +kernel
theorem dT_countBelow_27 : decode bT_countBelow 27 = .ok (.if_icmp .ge 79, 3) := by decide +kernel
theorem dT_countBelow_30 : decode bT_countBelow 30 = .ok (.aload_n 0, 1) := by decide +kernel
theorem dT_countBelow_31 : decode bT_countBelow 31 = .ok (.getfield 11, 3) := by decide +kernel
theorem dT_countBelow_34 : decode bT_countBelow 34 = .ok (.iload 7, 2) := by decide +kernel
theorem dT_countBelow_36 : decode bT_countBelow 36 = .ok (.aaload, 1) := by decide +kernel
theorem dT_countBelow_37 : decode bT_countBelow 37 = .ok (.astore 8, 2) := by decide +kernel
theorem dT_countBelow_39 : decode bT_countBelow 39 = .ok (.iload_n 1, 1) := by decide +kernel
theorem dT_countBelow_40 : decode bT_countBelow 40 = .ok (.iload 7, 2) := by decide +kernel
theorem dT_countBelow_42 : decode bT_countBelow 42 = .ok (.invokestatic 35, 3) := by decide +kernel
theorem dT_countBelow_45 : decode bT_countBelow 45 = .ok (.ishr, 1) := by decide +kernel
theorem dT_countBelow_46 : decode bT_countBelow 46 = .ok (.iconst 1, 1) := by decide +kernel
theorem dT_countBelow_47 : decode bT_countBelow 47 = .ok (.iand, 1) := by decide +kernel
theorem dT_countBelow_48 : decode bT_countBelow 48 = .ok (.istore 9, 2) := by decide +kernel
theorem dT_countBelow_50 : decode bT_countBelow 50 = .ok (.iload 9, 2) := by decide +kernel
theorem dT_countBelow_52 : decode bT_countBelow 52 = .ok (.iconst 1, 1) := by decide +kernel
theorem dT_countBelow_53 : decode bT_countBelow 53 = .ok (.if_icmp .ne 25, 3) := by decide +kernel
theorem dT_countBelow_56 : decode bT_countBelow 56 = .ok (.iload 4, 2) := by decide +kernel
theorem dT_countBelow_58 : decode bT_countBelow 58 = .ok (.aload 8, 2) := by decide +kernel
theorem dT_countBelow_60 : decode bT_countBelow 60 = .ok (.iconst 0, 1) := by decide +kernel
theorem dT_countBelow_61 : decode bT_countBelow 61 = .ok (.iload 6, 2) := by decide +kernel
theorem dT_countBelow_63 : decode bT_countBelow 63 = .ok (.invokevirtual 50, 3) := by decide +kernel
theorem dT_countBelow_66 : decode bT_countBelow 66 = .ok (.aload 8, 2) := by decide +kernel
theorem dT_countBelow_68 : decode bT_countBelow 68 = .ok (.iconst 0, 1) := by decide +kernel
theorem dT_countBelow_69 : decode bT_countBelow 69 = .ok (.iload 5, 2) := by decide +kernel
theorem dT_countBelow_71 : decode bT_countBelow 71 = .ok (.invokevirtual 50, 3) := by decide +kernel
theorem dT_countBelow_74 : decode bT_countBelow 74 = .ok (.isub, 1) := by decide +kernel
theorem dT_countBelow_75 : decode bT_countBelow 75 = .ok (.iadd, 1) := by decide +kernel
theorem dT_countBelow_76 : decode bT_countBelow 76 = .ok (.istore 4, 2) := by decide +kernel
theorem dT_countBelow_78 : decode bT_countBelow 78 = .ok (.aload 8, 2) := by decide +kernel
theorem dT_countBelow_80 : decode bT_countBelow 80 = .ok (.iload 9, 2) := by decide +kernel
theorem dT_countBelow_82 : decode bT_countBelow 82 = .ok (.iload 5, 2) := by decide +kernel
theorem dT_countBelow_84 : decode bT_countBelow 84 = .ok (.invokevirtual 50, 3) := by decide +kernel
theorem dT_countBelow_87 : decode bT_countBelow 87 = .ok (.istore 5, 2) := by decide +kernel
theorem dT_countBelow_89 : decode bT_countBelow 89 = .ok (.aload 8, 2) := by decide +kernel
theorem dT_countBelow_91 : decode bT_countBelow 91 = .ok (.iload 9, 2) := by decide +kernel
theorem dT_countBelow_93 : decode bT_countBelow 93 = .ok (.iload 6, 2) := by decide +kernel
theorem dT_countBelow_95 : decode bT_countBelow 95 = .ok (.invokevirtual 50, 3) := by decide +kernel
theorem dT_countBelow_98 : decode bT_countBelow 98 = .ok (.istore 6, 2) := by decide +kernel
theorem dT_countBelow_100 : decode bT_countBelow 100 = .ok (.iinc 7 1, 3) := by decide +kernel
theorem dT_countBelow_103 : decode bT_countBelow 103 = .ok (.goto (-80), 3) := by decide +kernel
theorem dT_countBelow_106 : decode bT_countBelow 106 = .ok (.iload 4, 2) := by decide +kernel
theorem dT_countBelow_108 : decode bT_countBelow 108 = .ok (.ireturn, 1) := by decide +kernel
theorem dW_different_0 : decode bW_different 0 = .ok (.aload_n 3, 1) := by decide +kernel
theorem dW_different_1 : decode bW_different 1 = .ok (.iconst 0, 1) := by decide +kernel
theorem dW_different_2 : decode bW_different 2 = .ok (.aload_n 0, 1) := by decide +kernel
theorem dW_different_3 : decode bW_different 3 = .ok (.iload_n 1, 1) := by decide +kernel
theorem dW_different_4 : decode bW_different 4 = .ok (.iload_n 2, 1) := by decide +kernel
theorem dW_different_5 : decode bW_different 5 = .ok (.invokevirtual 39, 3) := by decide +kernel
theorem dW_different_8 : decode bW_different 8 = .ok (.i2l, 1) := by decide +kernel
theorem dW_different_9 : decode bW_different 9 = .ok (.lastore, 1) := by decide +kernel
theorem dW_different_10 : decode bW_different 10 = .ok (.goto 7, 3) := by decide +kernel
theorem dW_different_13 : decode bW_different 13 = .ok (.astore 4, 2) := by decide +kernel
theorem dW_different_15 : decode bW_different 15 = .ok (.iconst 1, 1) := by decide +kernel
theorem dW_different_16 : decode bW_different 16 = .ok (.ireturn, 1) := by decide +kernel
theorem dW_different_17 : decode bW_different 17 = .ok (.iconst 0, 1) := by decide +kernel
theorem dW_different_18 : decode bW_different 18 = .ok (.ireturn, 1) := by decide +kernel
theorem dL_different_0 : decode bL_different 0 = .ok (.aload_n 0, 1) := by decide +kernel
theorem dL_different_1 : decode bL_different 1 = .ok (.iload_n 1, 1) := by decide +kernel
theorem dL_different_2 : decode bL_different 2 = .ok (.iload_n 2, 1) := by decide +kernel
theorem dL_different_3 : decode bL_different 3 = .ok (.invokevirtual 63, 3) := by decide +kernel
theorem dL_different_6 : decode bL_different 6 = .ok (.iconst 0, 1) := by decide +kernel
theorem dL_different_7 : decode bL_different 7 = .ok (.istore_n 3, 1) := by decide +kernel
theorem dL_different_8 : decode bL_different 8 = .ok (.iconst 0, 1) := by decide +kernel
theorem dL_different_9 : decode bL_different 9 = .ok (.istore 4, 2) := by decide +kernel
theorem dL_different_11 : decode bL_different 11 = .ok (.iload 4, 2) := by decide +kernel
theorem dL_different_13 : decode bL_different 13 = .ok (.sipush 512, 3) := by decide +kernel
theorem dL_different_16 : decode bL_different 16 = .ok (.if_icmp .ge 46, 3) := by decide +kernel
theorem dL_different_19 : decode bL_different 19 = .ok (.iload_n 3, 1) := by decide +kernel
theorem dL_different_20 : decode bL_different 20 = .ok (.iload_n 2, 1) := by decide +kernel
theorem dL_different_21 : decode bL_different 21 = .ok (.iload_n 1, 1) := by decide +kernel
theorem dL_different_22 : decode bL_different 22 = .ok (.isub, 1) := by decide +kernel
theorem dL_different_23 : decode bL_different 23 = .ok (.if_icmp .ge 39, 3) := by decide +kernel
theorem dL_different_26 : decode bL_different 26 = .ok (.aload_n 0, 1) := by decide +kernel
theorem dL_different_27 : decode bL_different 27 = .ok (.getfield 20, 3) := by decide +kernel
theorem dL_different_30 : decode bL_different 30 = .ok (.iload 4, 2) := by decide +kernel
theorem dL_different_32 : decode bL_different 32 = .ok (.aload_n 0, 1) := by decide +kernel
theorem dL_different_33 : decode bL_different 33 = .ok (.getfield 16, 3) := by decide +kernel
theorem dL_different_36 : decode bL_different 36 = .ok (.iload_n 1, 1) := by decide +kernel
theorem dL_different_37 : decode bL_different 37 = .ok (.iload_n 2, 1) := by decide +kernel
theorem dL_different_38 : decode bL_different 38 = .ok (.iload_n 3, 1) := by decide +kernel
theorem dL_different_39 : decode bL_different 39 = .ok (.invokevirtual 78, 3) := by decide +kernel
theorem dL_different_42 : decode bL_different 42 = .ok (.iastore, 1) := by decide +kernel
theorem dL_different_43 : decode bL_different 43 = .ok (.iload_n 3, 1) := by decide +kernel
theorem dL_different_44 : decode bL_different 44 = .ok (.aload_n 0, 1) := by decide +kernel
theorem dL_different_45 : decode bL_different 45 = .ok (.getfield 20, 3) := by decide +kernel
theorem dL_different_48 : decode bL_different 48 = .ok (.iload 4, 2) := by decide +kernel
theorem dL_different_50 : decode bL_different 50 = .ok (.iaload, 1) := by decide +kernel
theorem dL_different_51 : decode bL_different 51 = .ok (.invokestatic 87, 3) := by decide +kernel
theorem dL_different_54 : decode bL_different 54 = .ok (.iadd, 1) := by decide +kernel
theorem dL_different_55 : decode bL_different 55 = .ok (.istore_n 3, 1) := by decide +kernel
theorem dL_different_56 : decode bL_different 56 = .ok (.iinc 4 1, 3) := by decide +kernel
theorem dL_different_59 : decode bL_different 59 = .ok (.goto (-48), 3) := by decide +kernel
theorem dL_different_62 : decode bL_different 62 = .ok (.aload_n 0, 1) := by decide +kernel
theorem dL_different_63 : decode bL_different 63 = .ok (.iload 4, 2) := by decide +kernel
theorem dL_different_65 : decode bL_different 65 = .ok (.putfield 27, 3) := by decide +kernel
theorem dL_different_68 : decode bL_different 68 = .ok (.iload 4, 2) := by decide +kernel
theorem dL_different_70 : decode bL_different 70 = .ok (.ireturn, 1) := by decide +kernel
theorem dL_timesIn_0 : decode bL_timesIn 0 = .ok (.iload_n 0, 1) := by decide +kernel
theorem dL_timesIn_1 : decode bL_timesIn 1 = .ok (.sipush 4096, 3) := by decide +kernel
theorem dL_timesIn_4 : decode bL_timesIn 4 = .ok (.irem, 1) := by decide +kernel
theorem dL_timesIn_5 : decode bL_timesIn 5 = .ok (.ireturn, 1) := by decide +kernel
theorem dW_number_0 : decode bW_number 0 = .ok (.aload_n 2, 1) := by decide +kernel
theorem dW_number_1 : decode bW_number 1 = .ok (.iconst 0, 1) := by decide +kernel
theorem dW_number_2 : decode bW_number 2 = .ok (.aload_n 0, 1) := by decide +kernel
theorem dW_number_3 : decode bW_number 3 = .ok (.iload_n 1, 1) := by decide +kernel
theorem dW_number_4 : decode bW_number 4 = .ok (.invokevirtual 42, 3) := by decide +kernel
theorem dW_number_7 : decode bW_number 7 = .ok (.i2l, 1) := by decide +kernel
theorem dW_number_8 : decode bW_number 8 = .ok (.lastore, 1) := by decide +kernel
theorem dW_number_9 : decode bW_number 9 = .ok (.goto 6, 3) := by decide +kernel
theorem dW_number_12 : decode bW_number 12 = .ok (.astore_n 3, 1) := by decide +kernel
theorem dW_number_13 : decode bW_number 13 = .ok (.iconst 1, 1) := by decide +kernel
theorem dW_number_14 : decode bW_number 14 = .ok (.ireturn, 1) := by decide +kernel
theorem dW_number_15 : decode bW_number 15 = .ok (.iconst 0, 1) := by decide +kernel
theorem dW_number_16 : decode bW_number 16 = .ok (.ireturn, 1) := by decide +kernel
theorem dL_number_0 : decode bL_number 0 = .ok (.iload_n 1, 1) := by decide +kernel
theorem dL_number_1 : decode bL_number 1 = .ok (.ifCond .lt 11, 3) := by decide +kernel
theorem dL_number_4 : decode bL_number 4 = .ok (.iload_n 1, 1) := by decide +kernel
theorem dL_number_5 : decode bL_number 5 = .ok (.aload_n 0, 1) := by decide +kernel
theorem dL_number_6 : decode bL_number 6 = .ok (.getfield 27, 3) := by decide +kernel
theorem dL_number_9 : decode bL_number 9 = .ok (.if_icmp .lt 13, 3) := by decide +kernel
theorem dL_number_12 : decode bL_number 12 = .ok (.new 50, 3) := by decide +kernel
theorem dL_number_15 : decode bL_number 15 = .ok (.dup, 1) := by decide +kernel
theorem dL_number_16 : decode bL_number 16 = .ok (.ldc 90, 2) := by decide +kernel
theorem dL_number_18 : decode bL_number 18 = .ok (.invokespecial 54, 3) := by decide +kernel
theorem dL_number_21 : decode bL_number 21 = .ok (.athrow, 1) := by decide +kernel
theorem dL_number_22 : decode bL_number 22 = .ok (.aload_n 0, 1) := by decide +kernel
theorem dL_number_23 : decode bL_number 23 = .ok (.getfield 20, 3) := by decide +kernel
theorem dL_number_26 : decode bL_number 26 = .ok (.iload_n 1, 1) := by decide +kernel
theorem dL_number_27 : decode bL_number 27 = .ok (.iaload, 1) := by decide +kernel
theorem dL_number_28 : decode bL_number 28 = .ok (.ireturn, 1) := by decide +kernel
theorem dW_before_0 : decode bW_before 0 = .ok (.aload 4, 2) := by decide +kernel
theorem dW_before_2 : decode bW_before 2 = .ok (.iconst 0, 1) := by decide +kernel
theorem dW_before_3 : decode bW_before 3 = .ok (.aload_n 0, 1) := by decide +kernel
theorem dW_before_4 : decode bW_before 4 = .ok (.iload_n 1, 1) := by decide +kernel
theorem dW_before_5 : decode bW_before 5 = .ok (.iload_n 2, 1) := by decide +kernel
theorem dW_before_6 : decode bW_before 6 = .ok (.iload_n 3, 1) := by decide +kernel
theorem dW_before_7 : decode bW_before 7 = .ok (.invokevirtual 45, 3) := by decide +kernel
theorem dW_before_10 : decode bW_before 10 = .ok (.i2l, 1) := by decide +kernel
theorem dW_before_11 : decode bW_before 11 = .ok (.lastore, 1) := by decide +kernel
theorem dW_before_12 : decode bW_before 12 = .ok (.goto 7, 3) := by decide +kernel
theorem dW_before_15 : decode bW_before 15 = .ok (.astore 5, 2) := by decide +kernel
theorem dW_before_17 : decode bW_before 17 = .ok (.iconst 1, 1) := by decide +kernel
theorem dW_before_18 : decode bW_before 18 = .ok (.ireturn, 1) := by decide +kernel
theorem dW_before_19 : decode bW_before 19 = .ok (.iconst 0, 1) := by decide +kernel
theorem dW_before_20 : decode bW_before 20 = .ok (.ireturn, 1) := by decide +kernel
theorem dL_before_0 : decode bL_before 0 = .ok (.iload_n 1, 1) := by decide +kernel
theorem dL_before_1 : decode bL_before 1 = .ok (.sipush 511, 3) := by decide +kernel
theorem dL_before_4 : decode bL_before 4 = .ok (.invokestatic 59, 3) := by decide +kernel
theorem dL_before_7 : decode bL_before 7 = .ok (.aload_n 0, 1) := by decide +kernel
theorem dL_before_8 : decode bL_before 8 = .ok (.iload_n 2, 1) := by decide +kernel
theorem dL_before_9 : decode bL_before 9 = .ok (.iload_n 3, 1) := by decide +kernel
theorem dL_before_10 : decode bL_before 10 = .ok (.invokevirtual 63, 3) := by decide +kernel
theorem dL_before_13 : decode bL_before 13 = .ok (.aload_n 0, 1) := by decide +kernel
theorem dL_before_14 : decode bL_before 14 = .ok (.getfield 16, 3) := by decide +kernel
theorem dL_before_17 : decode bL_before 17 = .ok (.iload_n 1, 1) := by decide +kernel
theorem dL_before_18 : decode bL_before 18 = .ok (.iconst 1, 1) := by decide +kernel
theorem dL_before_19 : decode bL_before 19 = .ok (.iadd, 1) := by decide +kernel
theorem dL_before_20 : decode bL_before 20 = .ok (.iload_n 2, 1) := by decide +kernel
theorem dL_before_21 : decode bL_before 21 = .ok (.iload_n 3, 1) := by decide +kernel
theorem dL_before_22 : decode bL_before 22 = .ok (.invokevirtual 84, 3) := by decide +kernel
theorem dL_before_25 : decode bL_before 25 = .ok (.istore 4, 2) := by decide +kernel
theorem dL_before_27 : decode bL_before 27 = .ok (.iload 4, 2) := by decide +kernel
theorem dL_before_29 : decode bL_before 29 = .ok (.ifCond .ne 7, 3) := by decide +kernel
theorem dL_before_32 : decode bL_before 32 = .ok (.iconst (-1), 1) := by decide +kernel
theorem dL_before_33 : decode bL_before 33 = .ok (.goto 19, 3) := by decide +kernel
theorem dL_before_36 : decode bL_before 36 = .ok (.aload_n 0, 1) := by decide +kernel
theorem dL_before_37 : decode bL_before 37 = .ok (.getfield 16, 3) := by decide +kernel
theorem dL_before_40 : decode bL_before 40 = .ok (.iload_n 2, 1) := by decide +kernel
theorem dL_before_41 : decode bL_before 41 = .ok (.iload_n 3, 1) := by decide +kernel
theorem dL_before_42 : decode bL_before 42 = .ok (.iload 4, 2) := by decide +kernel
theorem dL_before_44 : decode bL_before 44 = .ok (.iconst 1, 1) := by decide +kernel
theorem dL_before_45 : decode bL_before 45 = .ok (.isub, 1) := by decide +kernel
theorem dL_before_46 : decode bL_before 46 = .ok (.invokevirtual 78, 3) := by decide +kernel
theorem dL_before_49 : decode bL_before 49 = .ok (.invokestatic 81, 3) := by decide +kernel
theorem dL_before_52 : decode bL_before 52 = .ok (.ireturn, 1) := by decide +kernel
theorem dW_most_0 : decode bW_most 0 = .ok (.aload_n 3, 1) := by decide +kernel
theorem dW_most_1 : decode bW_most 1 = .ok (.iconst 0, 1) := by decide +kernel
theorem dW_most_2 : decode bW_most 2 = .ok (.aload_n 0, 1) := by decide +kernel
theorem dW_most_3 : decode bW_most 3 = .ok (.iload_n 1, 1) := by decide +kernel
theorem dW_most_4 : decode bW_most 4 = .ok (.iload_n 2, 1) := by decide +kernel
theorem dW_most_5 : decode bW_most 5 = .ok (.invokevirtual 48, 3) := by decide +kernel
theorem dW_most_8 : decode bW_most 8 = .ok (.i2l, 1) := by decide +kernel
theorem dW_most_9 : decode bW_most 9 = .ok (.lastore, 1) := by decide +kernel
theorem dW_most_10 : decode bW_most 10 = .ok (.goto 7, 3) := by decide +kernel
theorem dW_most_13 : decode bW_most 13 = .ok (.astore 4, 2) := by decide +kernel
theorem dW_most_15 : decode bW_most 15 = .ok (.iconst 1, 1) := by decide +kernel
theorem dW_most_16 : decode bW_most 16 = .ok (.ireturn, 1) := by decide +kernel
theorem dW_most_17 : decode bW_most 17 = .ok (.iconst 0, 1) := by decide +kernel
theorem dW_most_18 : decode bW_most 18 = .ok (.ireturn, 1) := by decide +kernel
theorem dL_most_0 : decode bL_most 0 = .ok (.aload_n 0, 1) := by decide +kernel
theorem dL_most_1 : decode bL_most 1 = .ok (.iload_n 1, 1) := by decide +kernel
theorem dL_most_2 : decode bL_most 2 = .ok (.iload_n 2, 1) := by decide +kernel
theorem dL_most_3 : decode bL_most 3 = .ok (.invokevirtual 63, 3) := by decide +kernel
theorem dL_most_6 : decode bL_most 6 = .ok (.iconst (-1), 1) := by decide +kernel
theorem dL_most_7 : decode bL_most 7 = .ok (.istore_n 3, 1) := by decide +kernel
theorem dL_most_8 : decode bL_most 8 = .ok (.iconst 0, 1) := by decide +kernel
theorem dL_most_9 : decode bL_most 9 = .ok (.istore 4, 2) := by decide +kernel
theorem dL_most_11 : decode bL_most 11 = .ok (.iconst 0, 1) := by decide +kernel
theorem dL_most_12 : decode bL_most 12 = .ok (.istore 5, 2) := by decide +kernel
theorem dL_most_14 : decode bL_most 14 = .ok (.iconst 0, 1) := by decide +kernel
theorem dL_most_15 : decode bL_most 15 = .ok (.istore 6, 2) := by decide +kernel
theorem dL_most_17 : decode bL_most 17 = .ok (.iload 6, 2) := by decide +kernel
theorem dL_most_19 : decode bL_most 19 = .ok (.sipush 512, 3) := by decide +kernel
theorem dL_most_22 : decode bL_most 22 = .ok (.if_icmp .ge 61, 3) := by decide +kernel
theorem dL_most_25 : decode bL_most 25 = .ok (.iload 5, 2) := by decide +kernel
theorem dL_most_27 : decode bL_most 27 = .ok (.iload_n 2, 1) := by decide +kernel
theorem dL_most_28 : decode bL_most 28 = .ok (.iload_n 1, 1) := by decide +kernel
theorem dL_most_29 : decode bL_most 29 = .ok (.isub, 1) := by decide +kernel
theorem dL_most_30 : decode bL_most 30 = .ok (.if_icmp .ge 53, 3) := by decide +kernel
theorem dL_most_33 : decode bL_most 33 = .ok (.aload_n 0, 1) := by decide +kernel
theorem dL_most_34 : decode bL_most 34 = .ok (.getfield 16, 3) := by decide +kernel
theorem dL_most_37 : decode bL_most 37 = .ok (.iload_n 1, 1) := by decide +kernel
theorem dL_most_38 : decode bL_most 38 = .ok (.iload_n 2, 1) := by decide +kernel
theorem dL_most_39 : decode bL_most 39 = .ok (.iload 5, 2) := by decide +kernel
theorem dL_most_41 : decode bL_most 41 = .ok (.invokevirtual 78, 3) := by decide +kernel
theorem dL_most_44 : decode bL_most 44 = .ok (.istore 7, 2) := by decide +kernel
theorem dL_most_46 : decode bL_most 46 = .ok (.iload 7, 2) := by decide +kernel
theorem dL_most_48 : decode bL_most 48 = .ok (.invokestatic 87, 3) := by decide +kernel
theorem dL_most_51 : decode bL_most 51 = .ok (.istore 8, 2) := by decide +kernel
theorem dL_most_53 : decode bL_most 53 = .ok (.iload 8, 2) := by decide +kernel
theorem dL_most_55 : decode bL_most 55 = .ok (.iload 4, 2) := by decide +kernel
theorem dL_most_57 : decode bL_most 57 = .ok (.if_icmp .le 13, 3) := by decide +kernel
theorem dL_most_60 : decode bL_most 60 = .ok (.iload 7, 2) := by decide +kernel
theorem dL_most_62 : decode bL_most 62 = .ok (.invokestatic 81, 3) := by decide +kernel
theorem dL_most_65 : decode bL_most 65 = .ok (.istore_n 3, 1) := by decide +kernel
theorem dL_most_66 : decode bL_most 66 = .ok (.iload 8, 2) := by decide +kernel
theorem dL_most_68 : decode bL_most 68 = .ok (.istore 4, 2) := by decide +kernel
theorem dL_most_70 : decode bL_most 70 = .ok (.iload 5, 2) := by decide +kernel
theorem dL_most_72 : decode bL_most 72 = .ok (.iload 8, 2) := by decide +kernel
theorem dL_most_74 : decode bL_most 74 = .ok (.iadd, 1) := by decide +kernel
theorem dL_most_75 : decode bL_most 75 = .ok (.istore 5, 2) := by decide +kernel
theorem dL_most_77 : decode bL_most 77 = .ok (.iinc 6 1, 3) := by decide +kernel
theorem dL_most_80 : decode bL_most 80 = .ok (.goto (-63), 3) := by decide +kernel
theorem dL_most_83 : decode bL_most 83 = .ok (.iload_n 3, 1) := by decide +kernel
theorem dL_most_84 : decode bL_most 84 = .ok (.ireturn, 1) := by decide +kernel
theorem dM_init_0 : decode bM_init 0 = .ok (.aload_n 0, 1) := by decide +kernel
theorem dM_init_1 : decode bM_init 1 = .ok (.invokespecial 1, 3) := by decide +kernel
theorem dM_init_4 : decode bM_init 4 = .ok (.aload_n 0, 1) := by decide +kernel
theorem dM_init_5 : decode bM_init 5 = .ok (.iconst 0, 1) := by decide +kernel
theorem dM_init_6 : decode bM_init 6 = .ok (.putfield 7, 3) := by decide +kernel
theorem dM_init_9 : decode bM_init 9 = .ok (.aload_n 0, 1) := by decide +kernel
theorem dM_init_10 : decode bM_init 10 = .ok (.sipush 4000, 3) := by decide +kernel
theorem dM_init_13 : decode bM_init 13 = .ok (.newarray .int, 2) := by decide +kernel
theorem dM_init_15 : decode bM_init 15 = .ok (.putfield 13, 3) := by decide +kernel
theorem dM_init_18 : decode bM_init 18 = .ok (.aload_n 0, 1) := by decide +kernel
theorem dM_init_19 : decode bM_init 19 = .ok (.sipush 4000, 3) := by decide +kernel
theorem dM_init_22 : decode bM_init 22 = .ok (.newarray .int, 2) := by decide +kernel
theorem dM_init_24 : decode bM_init 24 = .ok (.putfield 17, 3) := by decide +kernel
theorem dM_init_27 : decode bM_init 27 = .ok (.aload_n 0, 1) := by decide +kernel
theorem dM_init_28 : decode bM_init 28 = .ok (.sipush 512, 3) := by decide +kernel
theorem dM_init_31 : decode bM_init 31 = .ok (.newarray .int, 2) := by decide +kernel
theorem dM_init_33 : decode bM_init 33 = .ok (.putfield 20, 3) := by decide +kernel
theorem dM_init_36 : decode bM_init 36 = .ok (.aload_n 0, 1) := by decide +kernel
theorem dM_init_37 : decode bM_init 37 = .ok (.sipush 512, 3) := by decide +kernel
theorem dM_init_40 : decode bM_init 40 = .ok (.newarray .int, 2) := by decide +kernel
theorem dM_init_42 : decode bM_init 42 = .ok (.putfield 23, 3) := by decide +kernel
theorem dM_init_45 : decode bM_init 45 = .ok (.aload_n 0, 1) := by decide +kernel
theorem dM_init_46 : decode bM_init 46 = .ok (.sipush 512, 3) := by decide +kernel
theorem dM_init_49 : decode bM_init 49 = .ok (.newarray .int, 2) := by decide +kernel
theorem dM_init_51 : decode bM_init 51 = .ok (.putfield 26, 3) := by decide +kernel
theorem dM_init_54 : decode bM_init 54 = .ok (.aload_n 0, 1) := by decide +kernel
theorem dM_init_55 : decode bM_init 55 = .ok (.iconst 0, 1) := by decide +kernel
theorem dM_init_56 : decode bM_init 56 = .ok (.putfield 29, 3) := by decide +kernel
theorem dM_init_59 : decode bM_init 59 = .ok (.aload_n 0, 1) := by decide +kernel
theorem dM_init_60 : decode bM_init 60 = .ok (.iconst 0, 1) := by decide +kernel
theorem dM_init_61 : decode bM_init 61 = .ok (.putfield 32, 3) := by decide +kernel
theorem dM_init_64 : decode bM_init 64 = .ok (.aload_n 0, 1) := by decide +kernel
theorem dM_init_65 : decode bM_init 65 = .ok (.iconst 0, 1) := by decide +kernel
theorem dM_init_66 : decode bM_init 66 = .ok (.putfield 35, 3) := by decide +kernel
theorem dM_init_69 : decode bM_init 69 = .ok (.return_, 1) := by decide +kernel
theorem dM_thrown_0 : decode bM_thrown 0 = .ok (.aload_n 0, 1) := by decide +kernel
theorem dM_thrown_1 : decode bM_thrown 1 = .ok (.getfield 7, 3) := by decide +kernel
theorem dM_thrown_4 : decode bM_thrown 4 = .ok (.ireturn, 1) := by decide +kernel
theorem dM_add_0 : decode bM_add 0 = .ok (.aload_n 0, 1) := by decide +kernel
theorem dM_add_1 : decode bM_add 1 = .ok (.iconst 0, 1) := by decide +kernel
theorem dM_add_2 : decode bM_add 2 = .ok (.putfield 7, 3) := by decide +kernel
theorem dM_add_5 : decode bM_add 5 = .ok (.aload_n 0, 1) := by decide +kernel
theorem dM_add_6 : decode bM_add 6 = .ok (.iconst 1, 1) := by decide +kernel
theorem dM_add_7 : decode bM_add 7 = .ok (.aload_n 0, 1) := by decide +kernel
theorem dM_add_8 : decode bM_add 8 = .ok (.getfield 29, 3) := by decide +kernel
theorem dM_add_11 : decode bM_add 11 = .ok (.sipush 3997, 3) := by decide +kernel
theorem dM_add_14 : decode bM_add 14 = .ok (.if_icmp .le 7, 3) := by decide +kernel
theorem dM_add_17 : decode bM_add 17 = .ok (.iconst 1, 1) := by decide +kernel
theorem dM_add_18 : decode bM_add 18 = .ok (.goto 4, 3) := by decide +kernel
theorem dM_add_21 : decode bM_add 21 = .ok (.iconst 0, 1) := by decide +kernel
theorem dM_add_22 : decode bM_add 22 = .ok (.invokevirtual 38, 3) := by decide +kernel
theorem dM_add_25 : decode bM_add 25 = .ok (.ifCond .eq 5, 3) := by decide +kernel
theorem dM_add_28 : decode bM_add 28 = .ok (.iconst 0, 1) := by decide +kernel
theorem dM_add_29 : decode bM_add 29 = .ok (.ireturn, 1) := by decide +kernel
theorem dM_add_30 : decode bM_add 30 = .ok (.aload_n 0, 1) := by decide +kernel
theorem dM_add_31 : decode bM_add 31 = .ok (.getfield 13, 3) := by decide +kernel
theorem dM_add_34 : decode bM_add 34 = .ok (.aload_n 0, 1) := by decide +kernel
theorem dM_add_35 : decode bM_add 35 = .ok (.dup, 1) := by decide +kernel
theorem dM_add_36 : decode bM_add 36 = .ok (.getfield 29, 3) := by decide +kernel
theorem dM_add_39 : decode bM_add 39 = .ok (.dup_x1, 1) := by decide +kernel
theorem dM_add_40 : decode bM_add 40 = .ok (.iconst 1, 1) := by decide +kernel
theorem dM_add_41 : decode bM_add 41 = .ok (.iadd, 1) := by decide +kernel
theorem dM_add_42 : decode bM_add 42 = .ok (.putfield 29, 3) := by decide +kernel
theorem dM_add_45 : decode bM_add 45 = .ok (.iload_n 1, 1) := by decide +kernel
theorem dM_add_46 : decode bM_add 46 = .ok (.sipush 511, 3) := by decide +kernel
theorem dM_add_49 : decode bM_add 49 = .ok (.iand, 1) := by decide +kernel
theorem dM_add_50 : decode bM_add 50 = .ok (.iastore, 1) := by decide +kernel
theorem dM_add_51 : decode bM_add 51 = .ok (.aload_n 0, 1) := by decide +kernel
theorem dM_add_52 : decode bM_add 52 = .ok (.getfield 13, 3) := by decide +kernel
theorem dM_add_55 : decode bM_add 55 = .ok (.aload_n 0, 1) := by decide +kernel
theorem dM_add_56 : decode bM_add 56 = .ok (.dup, 1) := by decide +kernel
theorem dM_add_57 : decode bM_add 57 = .ok (.getfield 29, 3) := by decide +kernel
theorem dM_add_60 : decode bM_add 60 = .ok (.dup_x1, 1) := by decide +kernel
theorem dM_add_61 : decode bM_add 61 = .ok (.iconst 1, 1) := by decide +kernel
theorem dM_add_62 : decode bM_add 62 = .ok (.iadd, 1) := by decide +kernel
theorem dM_add_63 : decode bM_add 63 = .ok (.putfield 29, 3) := by decide +kernel
theorem dM_add_66 : decode bM_add 66 = .ok (.iload_n 2, 1) := by decide +kernel
theorem dM_add_67 : decode bM_add 67 = .ok (.sipush 511, 3) := by decide +kernel
theorem dM_add_70 : decode bM_add 70 = .ok (.iand, 1) := by decide +kernel
theorem dM_add_71 : decode bM_add 71 = .ok (.iastore, 1) := by decide +kernel
theorem dM_add_72 : decode bM_add 72 = .ok (.aload_n 0, 1) := by decide +kernel
theorem dM_add_73 : decode bM_add 73 = .ok (.getfield 13, 3) := by decide +kernel
theorem dM_add_76 : decode bM_add 76 = .ok (.aload_n 0, 1) := by decide +kernel
theorem dM_add_77 : decode bM_add 77 = .ok (.dup, 1) := by decide +kernel
theorem dM_add_78 : decode bM_add 78 = .ok (.getfield 29, 3) := by decide +kernel
theorem dM_add_81 : decode bM_add 81 = .ok (.dup_x1, 1) := by decide +kernel
theorem dM_add_82 : decode bM_add 82 = .ok (.iconst 1, 1) := by decide +kernel
theorem dM_add_83 : decode bM_add 83 = .ok (.iadd, 1) := by decide +kernel
theorem dM_add_84 : decode bM_add 84 = .ok (.putfield 29, 3) := by decide +kernel
theorem dM_add_87 : decode bM_add 87 = .ok (.iload_n 3, 1) := by decide +kernel
theorem dM_add_88 : decode bM_add 88 = .ok (.sipush 511, 3) := by decide +kernel
theorem dM_add_91 : decode bM_add 91 = .ok (.iand, 1) := by decide +kernel
theorem dM_add_92 : decode bM_add 92 = .ok (.iastore, 1) := by decide +kernel
theorem dM_add_93 : decode bM_add 93 = .ok (.aload_n 0, 1) := by decide +kernel
theorem dM_add_94 : decode bM_add 94 = .ok (.getfield 29, 3) := by decide +kernel
theorem dM_add_97 : decode bM_add 97 = .ok (.ireturn, 1) := by decide +kernel
theorem dM_refuse_0 : decode bM_refuse 0 = .ok (.iload_n 2, 1) := by decide +kernel
theorem dM_refuse_1 : decode bM_refuse 1 = .ok (.ifCond .eq 8, 3) := by decide +kernel
theorem dM_refuse_4 : decode bM_refuse 4 = .ok (.aload_n 0, 1) := by decide +kernel
theorem dM_refuse_5 : decode bM_refuse 5 = .ok (.iload_n 1, 1) := by decide +kernel
theorem dM_refuse_6 : decode bM_refuse 6 = .ok (.putfield 7, 3) := by decide +kernel
theorem dM_refuse_9 : decode bM_refuse 9 = .ok (.iload_n 2, 1) := by decide +kernel
theorem dM_refuse_10 : decode bM_refuse 10 = .ok (.ireturn, 1) := by decide +kernel
theorem dM_cut_0 : decode bM_cut 0 = .ok (.aload_n 0, 1) := by decide +kernel
theorem dM_cut_1 : decode bM_cut 1 = .ok (.iconst 0, 1) := by decide +kernel
theorem dM_cut_2 : decode bM_cut 2 = .ok (.putfield 7, 3) := by decide +kernel
theorem dM_cut_5 : decode bM_cut 5 = .ok (.aload_n 0, 1) := by decide +kernel
theorem dM_cut_6 : decode bM_cut 6 = .ok (.iconst 1, 1) := by decide +kernel
theorem dM_cut_7 : decode bM_cut 7 = .ok (.iload_n 1, 1) := by decide +kernel
theorem dM_cut_8 : decode bM_cut 8 = .ok (.ifCond .lt 11, 3) := by decide +kernel
theorem dM_cut_11 : decode bM_cut 11 = .ok (.iload_n 1, 1) := by decide +kernel
theorem dM_cut_12 : decode bM_cut 12 = .ok (.aload_n 0, 1) := by decide +kernel
theorem dM_cut_13 : decode bM_cut 13 = .ok (.getfield 29, 3) := by decide +kernel
theorem dM_cut_16 : decode bM_cut 16 = .ok (.if_icmp .le 7, 3) := by decide +kernel
theorem dM_cut_19 : decode bM_cut 19 = .ok (.iconst 1, 1) := by decide +kernel
theorem dM_cut_20 : decode bM_cut 20 = .ok (.goto 4, 3) := by decide +kernel
theorem dM_cut_23 : decode bM_cut 23 = .ok (.iconst 0, 1) := by decide +kernel
theorem dM_cut_24 : decode bM_cut 24 = .ok (.invokevirtual 38, 3) := by decide +kernel
theorem dM_cut_27 : decode bM_cut 27 = .ok (.ifCond .eq 5, 3) := by decide +kernel
theorem dM_cut_30 : decode bM_cut 30 = .ok (.iconst 0, 1) := by decide +kernel
theorem dM_cut_31 : decode bM_cut 31 = .ok (.ireturn, 1) := by decide +kernel
theorem dM_cut_32 : decode bM_cut 32 = .ok (.aload_n 0, 1) := by decide +kernel
theorem dM_cut_33 : decode bM_cut 33 = .ok (.iload_n 1, 1) := by decide +kernel
theorem dM_cut_34 : decode bM_cut 34 = .ok (.putfield 29, 3) := by decide +kernel
theorem dM_cut_37 : decode bM_cut 37 = .ok (.iload_n 1, 1) := by decide +kernel
theorem dM_cut_38 : decode bM_cut 38 = .ok (.ireturn, 1) := by decide +kernel
theorem dM_build_0 : decode bM_build 0 = .ok (.aload_n 0, 1) := by decide +kernel
theorem dM_build_1 : decode bM_build 1 = .ok (.iconst 0, 1) := by decide +kernel
theorem dM_build_2 : decode bM_build 2 = .ok (.putfield 7, 3) := by decide +kernel
theorem dM_build_5 : decode bM_build 5 = .ok (.iconst 0, 1) := by decide +kernel
theorem dM_build_6 : decode bM_build 6 = .ok (.istore_n 1, 1) := by decide +kernel
theorem dM_build_7 : decode bM_build 7 = .ok (.iload_n 1, 1) := by decide +kernel
theorem dM_build_8 : decode bM_build 8 = .ok (.aload_n 0, 1) := by decide +kernel
theorem dM_build_9 : decode bM_build 9 = .ok (.getfield 29, 3) := by decide +kernel
theorem dM_build_12 : decode bM_build 12 = .ok (.if_icmp .ge 21, 3) := by decide +kernel
theorem dM_build_15 : decode bM_build 15 = .ok (.aload_n 0, 1) := by decide +kernel
theorem dM_build_16 : decode bM_build 16 = .ok (.getfield 17, 3) := by decide +kernel
theorem dM_build_19 : decode bM_build 19 = .ok (.iload_n 1, 1) := by decide +kernel
theorem dM_build_20 : decode bM_build 20 = .ok (.aload_n 0, 1) := by decide +kernel
theorem dM_build_21 : decode bM_build 21 = .ok (.getfield 13, 3) := by decide +kernel
theorem dM_build_24 : decode bM_build 24 = .ok (.iload_n 1, 1) := by decide +kernel
theorem dM_build_25 : decode bM_build 25 = .ok (.iaload, 1) := by decide +kernel
theorem dM_build_26 : decode bM_build 26 = .ok (.iastore, 1) := by decide +kernel
theorem dM_build_27 : decode bM_build 27 = .ok (.iinc 1 1, 3) := by decide +kernel
theorem dM_build_30 : decode bM_build 30 = .ok (.goto (-23), 3) := by decide +kernel
theorem dM_build_33 : decode bM_build 33 = .ok (.aload_n 0, 1) := by decide +kernel
theorem dM_build_34 : decode bM_build 34 = .ok (.aload_n 0, 1) := by decide +kernel
theorem dM_build_35 : decode bM_build 35 = .ok (.getfield 29, 3) := by decide +kernel
theorem dM_build_38 : decode bM_build 38 = .ok (.putfield 32, 3) := by decide +kernel
theorem dM_build_41 : decode bM_build 41 = .ok (.aload_n 0, 1) := by decide +kernel
theorem dM_build_42 : decode bM_build 42 = .ok (.getfield 32, 3) := by decide +kernel
theorem dM_build_45 : decode bM_build 45 = .ok (.ireturn, 1) := by decide +kernel
theorem dM_at_0 : decode bM_at 0 = .ok (.aload_n 0, 1) := by decide +kernel
theorem dM_at_1 : decode bM_at 1 = .ok (.iconst 0, 1) := by decide +kernel
theorem dM_at_2 : decode bM_at 2 = .ok (.putfield 7, 3) := by decide +kernel
theorem dM_at_5 : decode bM_at 5 = .ok (.aload_n 0, 1) := by decide +kernel
theorem dM_at_6 : decode bM_at 6 = .ok (.iconst 1, 1) := by decide +kernel
theorem dM_at_7 : decode bM_at 7 = .ok (.iload_n 1, 1) := by decide +kernel
theorem dM_at_8 : decode bM_at 8 = .ok (.ifCond .lt 11, 3) := by decide +kernel
theorem dM_at_11 : decode bM_at 11 = .ok (.iload_n 1, 1) := by decide +kernel
theorem dM_at_12 : decode bM_at 12 = .ok (.aload_n 0, 1) := by decide +kernel
theorem dM_at_13 : decode bM_at 13 = .ok (.getfield 32, 3) := by decide +kernel
theorem dM_at_16 : decode bM_at 16 = .ok (.if_icmp .lt 7, 3) := by decide +kernel
theorem dM_at_19 : decode bM_at 19 = .ok (.iconst 1, 1) := by decide +kernel
theorem dM_at_20 : decode bM_at 20 = .ok (.goto 4, 3) := by decide +kernel
theorem dM_at_23 : decode bM_at 23 = .ok (.iconst 0, 1) := by decide +kernel
theorem dM_at_24 : decode bM_at 24 = .ok (.invokevirtual 38, 3) := by decide +kernel
theorem dM_at_27 : decode bM_at 27 = .ok (.ifCond .eq 5, 3) := by decide +kernel
theorem dM_at_30 : decode bM_at 30 = .ok (.iconst 0, 1) := by decide +kernel
theorem dM_at_31 : decode bM_at 31 = .ok (.ireturn, 1) := by decide +kernel
theorem dM_at_32 : decode bM_at 32 = .ok (.aload_n 0, 1) := by decide +kernel
theorem dM_at_33 : decode bM_at 33 = .ok (.getfield 17, 3) := by decide +kernel
theorem dM_at_36 : decode bM_at 36 = .ok (.iload_n 1, 1) := by decide +kernel
theorem dM_at_37 : decode bM_at 37 = .ok (.iaload, 1) := by decide +kernel
theorem dM_at_38 : decode bM_at 38 = .ok (.ireturn, 1) := by decide +kernel
theorem dM_often_0 : decode bM_often 0 = .ok (.aload_n 0, 1) := by decide +kernel
theorem dM_often_1 : decode bM_often 1 = .ok (.iload_n 2, 1) := by decide +kernel
theorem dM_often_2 : decode bM_often 2 = .ok (.iload_n 3, 1) := by decide +kernel
theorem dM_often_3 : decode bM_often 3 = .ok (.iload_n 1, 1) := by decide +kernel
theorem dM_often_4 : decode bM_often 4 = .ok (.ifCond .lt 10, 3) := by decide +kernel
theorem dM_often_7 : decode bM_often 7 = .ok (.iload_n 1, 1) := by decide +kernel
theorem dM_often_8 : decode bM_often 8 = .ok (.sipush 511, 3) := by decide +kernel
theorem dM_often_11 : decode bM_often 11 = .ok (.if_icmp .le 7, 3) := by decide +kernel
theorem dM_often_14 : decode bM_often 14 = .ok (.iconst 1, 1) := by decide +kernel
theorem dM_often_15 : decode bM_often 15 = .ok (.goto 4, 3) := by decide +kernel
theorem dM_often_18 : decode bM_often 18 = .ok (.iconst 0, 1) := by decide +kernel
theorem dM_often_19 : decode bM_often 19 = .ok (.invokevirtual 42, 3) := by decide +kernel
theorem dM_often_22 : decode bM_often 22 = .ok (.ifCond .eq 5, 3) := by decide +kernel
theorem dM_often_25 : decode bM_often 25 = .ok (.iconst 0, 1) := by decide +kernel
theorem dM_often_26 : decode bM_often 26 = .ok (.ireturn, 1) := by decide +kernel
theorem dM_often_27 : decode bM_often 27 = .ok (.iconst 0, 1) := by decide +kernel
theorem dM_often_28 : decode bM_often 28 = .ok (.istore 4, 2) := by decide +kernel
theorem dM_often_30 : decode bM_often 30 = .ok (.iload_n 2, 1) := by decide +kernel
theorem dM_often_31 : decode bM_often 31 = .ok (.istore 5, 2) := by decide +kernel
theorem dM_often_33 : decode bM_often 33 = .ok (.iload 5, 2) := by decide +kernel
theorem dM_often_35 : decode bM_often 35 = .ok (.iload_n 3, 1) := by decide +kernel
theorem dM_often_36 : decode bM_often 36 = .ok (.if_icmp .ge 23, 3) := by decide +kernel
theorem dM_often_39 : decode bM_often 39 = .ok (.aload_n 0, 1) := by decide +kernel
theorem dM_often_40 : decode bM_often 40 = .ok (.getfield 17, 3) := by decide +kernel
theorem dM_often_43 : decode bM_often 43 = .ok (.iload 5, 2) := by decide +kernel
theorem dM_often_45 : decode bM_often 45 = .ok (.iaload, 1) := by decide +kernel
theorem dM_often_46 : decode bM_often 46 = .ok (.iload_n 1, 1) := by decide +kernel
theorem dM_often_47 : decode bM_often 47 = .ok (.if_icmp .ne 6, 3) := by decide +kernel
theorem dM_often_50 : decode bM_often 50 = .ok (.iinc 4 1, 3) := by decide +kernel
theorem dM_often_53 : decode bM_often 53 = .ok (.iinc 5 1, 3) := by decide +kernel
theorem dM_often_56 : decode bM_often 56 = .ok (.goto (-23), 3) := by decide +kernel
theorem dM_often_59 : decode bM_often 59 = .ok (.iload 4, 2) := by decide +kernel
theorem dM_often_61 : decode bM_often 61 = .ok (.ireturn, 1) := by decide +kernel
theorem dM_noPart_0 : decode bM_noPart 0 = .ok (.aload_n 0, 1) := by decide +kernel
theorem dM_noPart_1 : decode bM_noPart 1 = .ok (.iconst 0, 1) := by decide +kernel
theorem dM_noPart_2 : decode bM_noPart 2 = .ok (.putfield 7, 3) := by decide +kernel
theorem dM_noPart_5 : decode bM_noPart 5 = .ok (.aload_n 0, 1) := by decide +kernel
theorem dM_noPart_6 : decode bM_noPart 6 = .ok (.iconst 1, 1) := by decide +kernel
theorem dM_noPart_7 : decode bM_noPart 7 = .ok (.iload_n 1, 1) := by decide +kernel
theorem dM_noPart_8 : decode bM_noPart 8 = .ok (.ifCond .lt 20, 3) := by decide +kernel
theorem dM_noPart_11 : decode bM_noPart 11 = .ok (.iload_n 1, 1) := by decide +kernel
theorem dM_noPart_12 : decode bM_noPart 12 = .ok (.iload_n 2, 1) := by decide +kernel
theorem dM_noPart_13 : decode bM_noPart 13 = .ok (.if_icmp .gt 15, 3) := by decide +kernel
theorem dM_noPart_16 : decode bM_noPart 16 = .ok (.iload_n 2, 1) := by decide +kernel
theorem dM_noPart_17 : decode bM_noPart 17 = .ok (.aload_n 0, 1) := by decide +kernel
theorem dM_noPart_18 : decode bM_noPart 18 = .ok (.getfield 32, 3) := by decide +kernel
theorem dM_noPart_21 : decode bM_noPart 21 = .ok (.if_icmp .gt 7, 3) := by decide +kernel
theorem dM_noPart_24 : decode bM_noPart 24 = .ok (.iload_n 3, 1) := by decide +kernel
theorem dM_noPart_25 : decode bM_noPart 25 = .ok (.ifCond .eq 7, 3) := by decide +kernel
theorem dM_noPart_28 : decode bM_noPart 28 = .ok (.iconst 1, 1) := by decide +kernel
theorem dM_noPart_29 : decode bM_noPart 29 = .ok (.goto 4, 3) := by decide +kernel
theorem dM_noPart_32 : decode bM_noPart 32 = .ok (.iconst 0, 1) := by decide +kernel
theorem dM_noPart_33 : decode bM_noPart 33 = .ok (.invokevirtual 38, 3) := by decide +kernel
theorem dM_noPart_36 : decode bM_noPart 36 = .ok (.ireturn, 1) := by decide +kernel
theorem dM_place_0 : decode bM_place 0 = .ok (.aload_n 0, 1) := by decide +kernel
theorem dM_place_1 : decode bM_place 1 = .ok (.iconst 0, 1) := by decide +kernel
theorem dM_place_2 : decode bM_place 2 = .ok (.putfield 7, 3) := by decide +kernel
theorem dM_place_5 : decode bM_place 5 = .ok (.aload_n 0, 1) := by decide +kernel
theorem dM_place_6 : decode bM_place 6 = .ok (.iconst 1, 1) := by decide +kernel
theorem dM_place_7 : decode bM_place 7 = .ok (.iload_n 1, 1) := by decide +kernel
theorem dM_place_8 : decode bM_place 8 = .ok (.ifCond .lt 10, 3) := by decide +kernel
theorem dM_place_11 : decode bM_place 11 = .ok (.iload_n 1, 1) := by decide +kernel
theorem dM_place_12 : decode bM_place 12 = .ok (.sipush 511, 3) := by decide +kernel
theorem dM_place_15 : decode bM_place 15 = .ok (.if_icmp .le 7, 3) := by decide +kernel
theorem dM_place_18 : decode bM_place 18 = .ok (.iconst 1, 1) := by decide +kernel
theorem dM_place_19 : decode bM_place 19 = .ok (.goto 4, 3) := by decide +kernel
theorem dM_place_22 : decode bM_place 22 = .ok (.iconst 0, 1) := by decide +kernel
theorem dM_place_23 : decode bM_place 23 = .ok (.invokevirtual 38, 3) := by decide +kernel
theorem dM_place_26 : decode bM_place 26 = .ok (.ifCond .eq 5, 3) := by decide +kernel
theorem dM_place_29 : decode bM_place 29 = .ok (.iconst 0, 1) := by decide +kernel
theorem dM_place_30 : decode bM_place 30 = .ok (.ireturn, 1) := by decide +kernel
theorem dM_place_31 : decode bM_place 31 = .ok (.iconst 0, 1) := by decide +kernel
theorem dM_place_32 : decode bM_place 32 = .ok (.istore_n 3, 1) := by decide +kernel
theorem dM_place_33 : decode bM_place 33 = .ok (.iconst 0, 1) := by decide +kernel
theorem dM_place_34 : decode bM_place 34 = .ok (.istore 4, 2) := by decide +kernel
theorem dM_place_36 : decode bM_place 36 = .ok (.iload 4, 2) := by decide +kernel
theorem dM_place_38 : decode bM_place 38 = .ok (.aload_n 0, 1) := by decide +kernel
theorem dM_place_39 : decode bM_place 39 = .ok (.getfield 32, 3) := by decide +kernel
theorem dM_place_42 : decode bM_place 42 = .ok (.if_icmp .ge 34, 3) := by decide +kernel
theorem dM_place_45 : decode bM_place 45 = .ok (.aload_n 0, 1) := by decide +kernel
theorem dM_place_46 : decode bM_place 46 = .ok (.getfield 17, 3) := by decide +kernel
theorem dM_place_49 : decode bM_place 49 = .ok (.iload 4, 2) := by decide +kernel
theorem dM_place_51 : decode bM_place 51 = .ok (.iaload, 1) := by decide +kernel
theorem dM_place_52 : decode bM_place 52 = .ok (.iload_n 1, 1) := by decide +kernel
theorem dM_place_53 : decode bM_place 53 = .ok (.if_icmp .eq 6, 3) := by decide +kernel
theorem dM_place_56 : decode bM_place 56 = .ok (.goto 14, 3) := by decide +kernel
theorem dM_place_59 : decode bM_place 59 = .ok (.iload_n 3, 1) := by decide +kernel
theorem dM_place_60 : decode bM_place 60 = .ok (.iload_n 2, 1) := by decide +kernel
theorem dM_place_61 : decode bM_place 61 = .ok (.if_icmp .ne 6, 3) := by decide +kernel
theorem dM_place_64 : decode bM_place 64 = .ok (.iload 4, 2) := by decide +kernel
theorem dM_place_66 : decode bM_place 66 = .ok (.ireturn, 1) := by decide +kernel
theorem dM_place_67 : decode bM_place 67 = .ok (.iinc 3 1, 3) := by decide +kernel
theorem dM_place_70 : decode bM_place 70 = .ok (.iinc 4 1, 3) := by decide +kernel
theorem dM_place_73 : decode bM_place 73 = .ok (.goto (-37), 3) := by decide +kernel
theorem dM_place_76 : decode bM_place 76 = .ok (.aload_n 0, 1) := by decide +kernel
theorem dM_place_77 : decode bM_place 77 = .ok (.iconst 2, 1) := by decide +kernel
theorem dM_place_78 : decode bM_place 78 = .ok (.iconst 1, 1) := by decide +kernel
theorem dM_place_79 : decode bM_place 79 = .ok (.invokevirtual 38, 3) := by decide +kernel
theorem dM_place_82 : decode bM_place 82 = .ok (.pop, 1) := by decide +kernel
theorem dM_place_83 : decode bM_place 83 = .ok (.iconst 0, 1) := by decide +kernel
theorem dM_place_84 : decode bM_place 84 = .ok (.ireturn, 1) := by decide +kernel
theorem dM_least_0 : decode bM_least 0 = .ok (.aload_n 0, 1) := by decide +kernel
theorem dM_least_1 : decode bM_least 1 = .ok (.iload_n 1, 1) := by decide +kernel
theorem dM_least_2 : decode bM_least 2 = .ok (.iload_n 2, 1) := by decide +kernel
theorem dM_least_3 : decode bM_least 3 = .ok (.iconst 0, 1) := by decide +kernel
theorem dM_least_4 : decode bM_least 4 = .ok (.invokevirtual 42, 3) := by decide +kernel
theorem dM_least_7 : decode bM_least 7 = .ok (.ifCond .ne 27, 3) := by decide +kernel
theorem dM_least_10 : decode bM_least 10 = .ok (.aload_n 0, 1) := by decide +kernel
theorem dM_least_11 : decode bM_least 11 = .ok (.iconst 2, 1) := by decide +kernel
theorem dM_least_12 : decode bM_least 12 = .ok (.iload_n 3, 1) := by decide +kernel
theorem dM_least_13 : decode bM_least 13 = .ok (.ifCond .lt 10, 3) := by decide +kernel
theorem dM_least_16 : decode bM_least 16 = .ok (.iload_n 3, 1) := by decide +kernel
theorem dM_least_17 : decode bM_least 17 = .ok (.iload_n 2, 1) := by decide +kernel
theorem dM_least_18 : decode bM_least 18 = .ok (.iload_n 1, 1) := by decide +kernel
theorem dM_least_19 : decode bM_least 19 = .ok (.isub, 1) := by decide +kernel
theorem dM_least_20 : decode bM_least 20 = .ok (.if_icmp .lt 7, 3) := by decide +kernel
theorem dM_least_23 : decode bM_least 23 = .ok (.iconst 1, 1) := by decide +kernel
theorem dM_least_24 : decode bM_least 24 = .ok (.goto 4, 3) := by decide +kernel
theorem dM_least_27 : decode bM_least 27 = .ok (.iconst 0, 1) := by decide +kernel
theorem dM_least_28 : decode bM_least 28 = .ok (.invokevirtual 38, 3) := by decide +kernel
theorem dM_least_31 : decode bM_least 31 = .ok (.ifCond .eq 5, 3) := by decide +kernel
theorem dM_least_34 : decode bM_least 34 = .ok (.iconst 0, 1) := by decide +kernel
theorem dM_least_35 : decode bM_least 35 = .ok (.ireturn, 1) := by decide +kernel
theorem dM_least_36 : decode bM_least 36 = .ok (.aload_n 0, 1) := by decide +kernel
theorem dM_least_37 : decode bM_least 37 = .ok (.iload_n 1, 1) := by decide +kernel
theorem dM_least_38 : decode bM_least 38 = .ok (.iload_n 2, 1) := by decide +kernel
theorem dM_least_39 : decode bM_least 39 = .ok (.invokevirtual 46, 3) := by decide +kernel
theorem dM_least_42 : decode bM_least 42 = .ok (.iload_n 3, 1) := by decide +kernel
theorem dM_least_43 : decode bM_least 43 = .ok (.istore 4, 2) := by decide +kernel
theorem dM_least_45 : decode bM_least 45 = .ok (.iconst 0, 1) := by decide +kernel
theorem dM_least_46 : decode bM_least 46 = .ok (.istore 5, 2) := by decide +kernel
theorem dM_least_48 : decode bM_least 48 = .ok (.iload 4, 2) := by decide +kernel
theorem dM_least_50 : decode bM_least 50 = .ok (.aload_n 0, 1) := by decide +kernel
theorem dM_least_51 : decode bM_least 51 = .ok (.getfield 20, 3) := by decide +kernel
theorem dM_least_54 : decode bM_least 54 = .ok (.iload 5, 2) := by decide +kernel
theorem dM_least_56 : decode bM_least 56 = .ok (.iaload, 1) := by decide +kernel
theorem dM_least_57 : decode bM_least 57 = .ok (.if_icmp .lt 21, 3) := by decide +kernel
theorem dM_least_60 : decode bM_least 60 = .ok (.iload 4, 2) := by decide +kernel
theorem dM_least_62 : decode bM_least 62 = .ok (.aload_n 0, 1) := by decide +kernel
theorem dM_least_63 : decode bM_least 63 = .ok (.getfield 20, 3) := by decide +kernel
theorem dM_least_66 : decode bM_least 66 = .ok (.iload 5, 2) := by decide +kernel
theorem dM_least_68 : decode bM_least 68 = .ok (.iaload, 1) := by decide +kernel
theorem dM_least_69 : decode bM_least 69 = .ok (.isub, 1) := by decide +kernel
theorem dM_least_70 : decode bM_least 70 = .ok (.istore 4, 2) := by decide +kernel
theorem dM_least_72 : decode bM_least 72 = .ok (.iinc 5 1, 3) := by decide +kernel
theorem dM_least_75 : decode bM_least 75 = .ok (.goto (-27), 3) := by decide +kernel
theorem dM_least_78 : decode bM_least 78 = .ok (.iload 5, 2) := by decide +kernel
theorem dM_least_80 : decode bM_least 80 = .ok (.ireturn, 1) := by decide +kernel
theorem dM_counted_0 : decode bM_counted 0 = .ok (.iconst 0, 1) := by decide +kernel
theorem dM_counted_1 : decode bM_counted 1 = .ok (.istore_n 3, 1) := by decide +kernel
theorem dM_counted_2 : decode bM_counted 2 = .ok (.iload_n 3, 1) := by decide +kernel
theorem dM_counted_3 : decode bM_counted 3 = .ok (.sipush 512, 3) := by decide +kernel
theorem dM_counted_6 : decode bM_counted 6 = .ok (.if_icmp .ge 16, 3) := by decide +kernel
theorem dM_counted_9 : decode bM_counted 9 = .ok (.aload_n 0, 1) := by decide +kernel
theorem dM_counted_10 : decode bM_counted 10 = .ok (.getfield 20, 3) := by decide +kernel
theorem dM_counted_13 : decode bM_counted 13 = .ok (.iload_n 3, 1) := by decide +kernel
theorem dM_counted_14 : decode bM_counted 14 = .ok (.iconst 0, 1) := by decide +kernel
theorem dM_counted_15 : decode bM_counted 15 = .ok (.iastore, 1) := by decide +kernel
theorem dM_counted_16 : decode bM_counted 16 = .ok (.iinc 3 1, 3) := by decide +kernel
theorem dM_counted_19 : decode bM_counted 19 = .ok (.goto (-17), 3) := by decide +kernel
theorem dM_counted_22 : decode bM_counted 22 = .ok (.iload_n 1, 1) := by decide +kernel
theorem dM_counted_23 : decode bM_counted 23 = .ok (.istore_n 3, 1) := by decide +kernel
theorem dM_counted_24 : decode bM_counted 24 = .ok (.iload_n 3, 1) := by decide +kernel
theorem dM_counted_25 : decode bM_counted 25 = .ok (.iload_n 2, 1) := by decide +kernel
theorem dM_counted_26 : decode bM_counted 26 = .ok (.if_icmp .ge 24, 3) := by decide +kernel
theorem dM_counted_29 : decode bM_counted 29 = .ok (.aload_n 0, 1) := by decide +kernel
theorem dM_counted_30 : decode bM_counted 30 = .ok (.getfield 20, 3) := by decide +kernel
theorem dM_counted_33 : decode bM_counted 33 = .ok (.aload_n 0, 1) := by decide +kernel
theorem dM_counted_34 : decode bM_counted 34 = .ok (.getfield 17, 3) := by decide +kernel
theorem dM_counted_37 : decode bM_counted 37 = .ok (.iload_n 3, 1) := by decide +kernel
theorem dM_counted_38 : decode bM_counted 38 = .ok (.iaload, 1) := by decide +kernel
theorem dM_counted_39 : decode bM_counted 39 = .ok (.dup2, 1) := by decide +kernel
theorem dM_counted_40 : decode bM_counted 40 = .ok (.iaload, 1) := by decide +kernel
theorem dM_counted_41 : decode bM_counted 41 = .ok (.iconst 1, 1) := by decide +kernel
theorem dM_counted_42 : decode bM_counted 42 = .ok (.iadd, 1) := by decide +kernel
theorem dM_counted_43 : decode bM_counted 43 = .ok (.iastore, 1) := by decide +kernel
theorem dM_counted_44 : decode bM_counted 44 = .ok (.iinc 3 1, 3) := by decide +kernel
theorem dM_counted_47 : decode bM_counted 47 = .ok (.goto (-23), 3) := by decide +kernel
theorem dM_counted_50 : decode bM_counted 50 = .ok (.return_, 1) := by decide +kernel
theorem dM_below_0 : decode bM_below 0 = .ok (.aload_n 0, 1) := by decide +kernel
theorem dM_below_1 : decode bM_below 1 = .ok (.iload_n 2, 1) := by decide +kernel
theorem dM_below_2 : decode bM_below 2 = .ok (.iload_n 3, 1) := by decide +kernel
theorem dM_below_3 : decode bM_below 3 = .ok (.iload_n 1, 1) := by decide +kernel
theorem dM_below_4 : decode bM_below 4 = .ok (.ifCond .lt 10, 3) := by decide +kernel
theorem dM_below_7 : decode bM_below 7 = .ok (.iload_n 1, 1) := by decide +kernel
theorem dM_below_8 : decode bM_below 8 = .ok (.sipush 512, 3) := by decide +kernel
theorem dM_below_11 : decode bM_below 11 = .ok (.if_icmp .le 7, 3) := by decide +kernel
theorem dM_below_14 : decode bM_below 14 = .ok (.iconst 1, 1) := by decide +kernel
theorem dM_below_15 : decode bM_below 15 = .ok (.goto 4, 3) := by decide +kernel
theorem dM_below_18 : decode bM_below 18 = .ok (.iconst 0, 1) := by decide +kernel
theorem dM_below_19 : decode bM_below 19 = .ok (.invokevirtual 42, 3) := by decide +kernel
theorem dM_below_22 : decode bM_below 22 = .ok (.ifCond .eq 5, 3) := by decide +kernel
theorem dM_below_25 : decode bM_below 25 = .ok (.iconst 0, 1) := by decide +kernel
theorem dM_below_26 : decode bM_below 26 = .ok (.ireturn, 1) := by decide +kernel
theorem dM_below_27 : decode bM_below 27 = .ok (.iconst 0, 1) := by decide +kernel
theorem dM_below_28 : decode bM_below 28 = .ok (.istore 4, 2) := by decide +kernel
theorem dM_below_30 : decode bM_below 30 = .ok (.iload_n 2, 1) := by decide +kernel
theorem dM_below_31 : decode bM_below 31 = .ok (.istore 5, 2) := by decide +kernel
theorem dM_below_33 : decode bM_below 33 = .ok (.iload 5, 2) := by decide +kernel
theorem dM_below_35 : decode bM_below 35 = .ok (.iload_n 3, 1) := by decide +kernel
theorem dM_below_36 : decode bM_below 36 = .ok (.if_icmp .ge 23, 3) := by decide +kernel
theorem dM_below_39 : decode bM_below 39 = .ok (.aload_n 0, 1) := by decide +kernel
theorem dM_below_40 : decode bM_below 40 = .ok (.getfield 17, 3) := by decide +kernel
theorem dM_below_43 : decode bM_below 43 = .ok (.iload 5, 2) := by decide +kernel
theorem dM_below_45 : decode bM_below 45 = .ok (.iaload, 1) := by decide +kernel
theorem dM_below_46 : decode bM_below 46 = .ok (.iload_n 1, 1) := by decide +kernel
theorem dM_below_47 : decode bM_below 47 = .ok (.if_icmp .ge 6, 3) := by decide +kernel
theorem dM_below_50 : decode bM_below 50 = .ok (.iinc 4 1, 3) := by decide +kernel
theorem dM_below_53 : decode bM_below 53 = .ok (.iinc 5 1, 3) := by decide +kernel
theorem dM_below_56 : decode bM_below 56 = .ok (.goto (-23), 3) := by decide +kernel
theorem dM_below_59 : decode bM_below 59 = .ok (.iload 4, 2) := by decide +kernel
theorem dM_below_61 : decode bM_below 61 = .ok (.ireturn, 1) := by decide +kernel
theorem dM_different_0 : decode bM_different 0 = .ok (.aload_n 0, 1) := by decide +kernel
theorem dM_different_1 : decode bM_different 1 = .ok (.iload_n 1, 1) := by decide +kernel
theorem dM_different_2 : decode bM_different 2 = .ok (.iload_n 2, 1) := by decide +kernel
theorem dM_different_3 : decode bM_different 3 = .ok (.iconst 0, 1) := by decide +kernel
theorem dM_different_4 : decode bM_different 4 = .ok (.invokevirtual 42, 3) := by decide +kernel
theorem dM_different_7 : decode bM_different 7 = .ok (.ifCond .eq 5, 3) := by decide +kernel
theorem dM_different_10 : decode bM_different 10 = .ok (.iconst 0, 1) := by decide +kernel
theorem dM_different_11 : decode bM_different 11 = .ok (.ireturn, 1) := by decide +kernel
theorem dM_different_12 : decode bM_different 12 = .ok (.aload_n 0, 1) := by decide +kernel
theorem dM_different_13 : decode bM_different 13 = .ok (.iload_n 1, 1) := by decide +kernel
theorem dM_different_14 : decode bM_different 14 = .ok (.iload_n 2, 1) := by decide +kernel
theorem dM_different_15 : decode bM_different 15 = .ok (.invokevirtual 46, 3) := by decide +kernel
theorem dM_different_18 : decode bM_different 18 = .ok (.aload_n 0, 1) := by decide +kernel
theorem dM_different_19 : decode bM_different 19 = .ok (.iconst 0, 1) := by decide +kernel
theorem dM_different_20 : decode bM_different 20 = .ok (.putfield 35, 3) := by decide +kernel
theorem dM_different_23 : decode bM_different 23 = .ok (.iconst 0, 1) := by decide +kernel
theorem dM_different_24 : decode bM_different 24 = .ok (.istore_n 3, 1) := by decide +kernel
theorem dM_different_25 : decode bM_different 25 = .ok (.iload_n 3, 1) := by decide +kernel
theorem dM_different_26 : decode bM_different 26 = .ok (.sipush 512, 3) := by decide +kernel
theorem dM_different_29 : decode bM_different 29 = .ok (.if_icmp .ge 53, 3) := by decide +kernel
theorem dM_different_32 : decode bM_different 32 = .ok (.aload_n 0, 1) := by decide +kernel
theorem dM_different_33 : decode bM_different 33 = .ok (.getfield 20, 3) := by decide +kernel
theorem dM_different_36 : decode bM_different 36 = .ok (.iload_n 3, 1) := by decide +kernel
theorem dM_different_37 : decode bM_different 37 = .ok (.iaload, 1) := by decide +kernel
theorem dM_different_38 : decode bM_different 38 = .ok (.ifCond .ne 6, 3) := by decide +kernel
theorem dM_different_41 : decode bM_different 41 = .ok (.goto 35, 3) := by decide +kernel
theorem dM_different_44 : decode bM_different 44 = .ok (.aload_n 0, 1) := by decide +kernel
theorem dM_different_45 : decode bM_different 45 = .ok (.getfield 23, 3) := by decide +kernel
theorem dM_different_48 : decode bM_different 48 = .ok (.aload_n 0, 1) := by decide +kernel
theorem dM_different_49 : decode bM_different 49 = .ok (.getfield 35, 3) := by decide +kernel
theorem dM_different_52 : decode bM_different 52 = .ok (.iload_n 3, 1) := by decide +kernel
theorem dM_different_53 : decode bM_different 53 = .ok (.iastore, 1) := by decide +kernel
theorem dM_different_54 : decode bM_different 54 = .ok (.aload_n 0, 1) := by decide +kernel
theorem dM_different_55 : decode bM_different 55 = .ok (.getfield 26, 3) := by decide +kernel
theorem dM_different_58 : decode bM_different 58 = .ok (.aload_n 0, 1) := by decide +kernel
theorem dM_different_59 : decode bM_different 59 = .ok (.dup, 1) := by decide +kernel
theorem dM_different_60 : decode bM_different 60 = .ok (.getfield 35, 3) := by decide +kernel
theorem dM_different_63 : decode bM_different 63 = .ok (.dup_x1, 1) := by decide +kernel
theorem dM_different_64 : decode bM_different 64 = .ok (.iconst 1, 1) := by decide +kernel
theorem dM_different_65 : decode bM_different 65 = .ok (.iadd, 1) := by decide +kernel
theorem dM_different_66 : decode bM_different 66 = .ok (.putfield 35, 3) := by decide +kernel
theorem dM_different_69 : decode bM_different 69 = .ok (.aload_n 0, 1) := by decide +kernel
theorem dM_different_70 : decode bM_different 70 = .ok (.getfield 20, 3) := by decide +kernel
theorem dM_different_73 : decode bM_different 73 = .ok (.iload_n 3, 1) := by decide +kernel
theorem dM_different_74 : decode bM_different 74 = .ok (.iaload, 1) := by decide +kernel
theorem dM_different_75 : decode bM_different 75 = .ok (.iastore, 1) := by decide +kernel
theorem dM_different_76 : decode bM_different 76 = .ok (.iinc 3 1, 3) := by decide +kernel
theorem dM_different_79 : decode bM_different 79 = .ok (.goto (-54), 3) := by decide +kernel
theorem dM_different_82 : decode bM_different 82 = .ok (.aload_n 0, 1) := by decide +kernel
theorem dM_different_83 : decode bM_different 83 = .ok (.getfield 35, 3) := by decide +kernel
theorem dM_different_86 : decode bM_different 86 = .ok (.ireturn, 1) := by decide +kernel
theorem dM_number_0 : decode bM_number 0 = .ok (.aload_n 0, 1) := by decide +kernel
theorem dM_number_1 : decode bM_number 1 = .ok (.iconst 0, 1) := by decide +kernel
theorem dM_number_2 : decode bM_number 2 = .ok (.putfield 7, 3) := by decide +kernel
theorem dM_number_5 : decode bM_number 5 = .ok (.aload_n 0, 1) := by decide +kernel
theorem dM_number_6 : decode bM_number 6 = .ok (.iconst 1, 1) := by decide +kernel
theorem dM_number_7 : decode bM_number 7 = .ok (.iload_n 1, 1) := by decide +kernel
theorem dM_number_8 : decode bM_number 8 = .ok (.ifCond .lt 11, 3) := by decide +kernel
theorem dM_number_11 : decode bM_number 11 = .ok (.iload_n 1, 1) := by decide +kernel
theorem dM_number_12 : decode bM_number 12 = .ok (.aload_n 0, 1) := by decide +kernel
theorem dM_number_13 : decode bM_number 13 = .ok (.getfield 35, 3) := by decide +kernel
theorem dM_number_16 : decode bM_number 16 = .ok (.if_icmp .lt 7, 3) := by decide +kernel
theorem dM_number_19 : decode bM_number 19 = .ok (.iconst 1, 1) := by decide +kernel
theorem dM_number_20 : decode bM_number 20 = .ok (.goto 4, 3) := by decide +kernel
theorem dM_number_23 : decode bM_number 23 = .ok (.iconst 0, 1) := by decide +kernel
theorem dM_number_24 : decode bM_number 24 = .ok (.invokevirtual 38, 3) := by decide +kernel
theorem dM_number_27 : decode bM_number 27 = .ok (.ifCond .eq 5, 3) := by decide +kernel
theorem dM_number_30 : decode bM_number 30 = .ok (.iconst 0, 1) := by decide +kernel
theorem dM_number_31 : decode bM_number 31 = .ok (.ireturn, 1) := by decide +kernel
theorem dM_number_32 : decode bM_number 32 = .ok (.sipush 4096, 3) := by decide +kernel
theorem dM_number_35 : decode bM_number 35 = .ok (.aload_n 0, 1) := by decide +kernel
theorem dM_number_36 : decode bM_number 36 = .ok (.getfield 23, 3) := by decide +kernel
theorem dM_number_39 : decode bM_number 39 = .ok (.iload_n 1, 1) := by decide +kernel
theorem dM_number_40 : decode bM_number 40 = .ok (.iaload, 1) := by decide +kernel
theorem dM_number_41 : decode bM_number 41 = .ok (.imul, 1) := by decide +kernel
theorem dM_number_42 : decode bM_number 42 = .ok (.aload_n 0, 1) := by decide +kernel
theorem dM_number_43 : decode bM_number 43 = .ok (.getfield 26, 3) := by decide +kernel
theorem dM_number_46 : decode bM_number 46 = .ok (.iload_n 1, 1) := by decide +kernel
theorem dM_number_47 : decode bM_number 47 = .ok (.iaload, 1) := by decide +kernel
theorem dM_number_48 : decode bM_number 48 = .ok (.iadd, 1) := by decide +kernel
theorem dM_number_49 : decode bM_number 49 = .ok (.ireturn, 1) := by decide +kernel
theorem dM_before_0 : decode bM_before 0 = .ok (.aload_n 0, 1) := by decide +kernel
theorem dM_before_1 : decode bM_before 1 = .ok (.iload_n 2, 1) := by decide +kernel
theorem dM_before_2 : decode bM_before 2 = .ok (.iload_n 3, 1) := by decide +kernel
theorem dM_before_3 : decode bM_before 3 = .ok (.iload_n 1, 1) := by decide +kernel
theorem dM_before_4 : decode bM_before 4 = .ok (.ifCond .lt 10, 3) := by decide +kernel
theorem dM_before_7 : decode bM_before 7 = .ok (.iload_n 1, 1) := by decide +kernel
theorem dM_before_8 : decode bM_before 8 = .ok (.sipush 511, 3) := by decide +kernel
theorem dM_before_11 : decode bM_before 11 = .ok (.if_icmp .le 7, 3) := by decide +kernel
theorem dM_before_14 : decode bM_before 14 = .ok (.iconst 1, 1) := by decide +kernel
theorem dM_before_15 : decode bM_before 15 = .ok (.goto 4, 3) := by decide +kernel
theorem dM_before_18 : decode bM_before 18 = .ok (.iconst 0, 1) := by decide +kernel
theorem dM_before_19 : decode bM_before 19 = .ok (.invokevirtual 42, 3) := by decide +kernel
theorem dM_before_22 : decode bM_before 22 = .ok (.ifCond .eq 5, 3) := by decide +kernel
theorem dM_before_25 : decode bM_before 25 = .ok (.iconst 0, 1) := by decide +kernel
theorem dM_before_26 : decode bM_before 26 = .ok (.ireturn, 1) := by decide +kernel
theorem dM_before_27 : decode bM_before 27 = .ok (.iconst (-1), 1) := by decide +kernel
theorem dM_before_28 : decode bM_before 28 = .ok (.istore 4, 2) := by decide +kernel
theorem dM_before_30 : decode bM_before 30 = .ok (.iload_n 2, 1) := by decide +kernel
theorem dM_before_31 : decode bM_before 31 = .ok (.istore 5, 2) := by decide +kernel
theorem dM_before_33 : decode bM_before 33 = .ok (.iload 5, 2) := by decide +kernel
theorem dM_before_35 : decode bM_before 35 = .ok (.iload_n 3, 1) := by decide +kernel
theorem dM_before_36 : decode bM_before 36 = .ok (.if_icmp .ge 41, 3) := by decide +kernel
theorem dM_before_39 : decode bM_before 39 = .ok (.aload_n 0, 1) := by decide +kernel
theorem dM_before_40 : decode bM_before 40 = .ok (.getfield 17, 3) := by decide +kernel
theorem dM_before_43 : decode bM_before 43 = .ok (.iload 5, 2) := by decide +kernel
theorem dM_before_45 : decode bM_before 45 = .ok (.iaload, 1) := by decide +kernel
theorem dM_before_46 : decode bM_before 46 = .ok (.iload_n 1, 1) := by decide +kernel
theorem dM_before_47 : decode bM_before 47 = .ok (.if_icmp .gt 24, 3) := by decide +kernel
theorem dM_before_50 : decode bM_before 50 = .ok (.aload_n 0, 1) := by decide +kernel
theorem dM_before_51 : decode bM_before 51 = .ok (.getfield 17, 3) := by decide +kernel
theorem dM_before_54 : decode bM_before 54 = .ok (.iload 5, 2) := by decide +kernel
theorem dM_before_56 : decode bM_before 56 = .ok (.iaload, 1) := by decide +kernel
theorem dM_before_57 : decode bM_before 57 = .ok (.iload 4, 2) := by decide +kernel
theorem dM_before_59 : decode bM_before 59 = .ok (.if_icmp .le 12, 3) := by decide +kernel
theorem dM_before_62 : decode bM_before 62 = .ok (.aload_n 0, 1) := by decide +kernel
theorem dM_before_63 : decode bM_before 63 = .ok (.getfield 17, 3) := by decide +kernel
theorem dM_before_66 : decode bM_before 66 = .ok (.iload 5, 2) := by decide +kernel
theorem dM_before_68 : decode bM_before 68 = .ok (.iaload, 1) := by decide +kernel
theorem dM_before_69 : decode bM_before 69 = .ok (.istore 4, 2) := by decide +kernel
theorem dM_before_71 : decode bM_before 71 = .ok (.iinc 5 1, 3) := by decide +kernel
theorem dM_before_74 : decode bM_before 74 = .ok (.goto (-41), 3) := by decide +kernel
theorem dM_before_77 : decode bM_before 77 = .ok (.iload 4, 2) := by decide +kernel
theorem dM_before_79 : decode bM_before 79 = .ok (.ireturn, 1) := by decide +kernel
theorem dM_most_0 : decode bM_most 0 = .ok (.aload_n 0, 1) := by decide +kernel
theorem dM_most_1 : decode bM_most 1 = .ok (.iload_n 1, 1) := by decide +kernel
theorem dM_most_2 : decode bM_most 2 = .ok (.iload_n 2, 1) := by decide +kernel
theorem dM_most_3 : decode bM_most 3 = .ok (.iconst 0, 1) := by decide +kernel
theorem dM_most_4 : decode bM_most 4 = .ok (.invokevirtual 42, 3) := by decide +kernel
theorem dM_most_7 : decode bM_most 7 = .ok (.ifCond .eq 5, 3) := by decide +kernel
theorem dM_most_10 : decode bM_most 10 = .ok (.iconst 0, 1) := by decide +kernel
theorem dM_most_11 : decode bM_most 11 = .ok (.ireturn, 1) := by decide +kernel
theorem dM_most_12 : decode bM_most 12 = .ok (.aload_n 0, 1) := by decide +kernel
theorem dM_most_13 : decode bM_most 13 = .ok (.iload_n 1, 1) := by decide +kernel
theorem dM_most_14 : decode bM_most 14 = .ok (.iload_n 2, 1) := by decide +kernel
theorem dM_most_15 : decode bM_most 15 = .ok (.invokevirtual 46, 3) := by decide +kernel
theorem dM_most_18 : decode bM_most 18 = .ok (.iconst (-1), 1) := by decide +kernel
theorem dM_most_19 : decode bM_most 19 = .ok (.istore_n 3, 1) := by decide +kernel
theorem dM_most_20 : decode bM_most 20 = .ok (.iconst 0, 1) := by decide +kernel
theorem dM_most_21 : decode bM_most 21 = .ok (.istore 4, 2) := by decide +kernel
theorem dM_most_23 : decode bM_most 23 = .ok (.iload 4, 2) := by decide +kernel
theorem dM_most_25 : decode bM_most 25 = .ok (.sipush 512, 3) := by decide +kernel
theorem dM_most_28 : decode bM_most 28 = .ok (.if_icmp .ge 42, 3) := by decide +kernel
theorem dM_most_31 : decode bM_most 31 = .ok (.aload_n 0, 1) := by decide +kernel
theorem dM_most_32 : decode bM_most 32 = .ok (.getfield 20, 3) := by decide +kernel
theorem dM_most_35 : decode bM_most 35 = .ok (.iload 4, 2) := by decide +kernel
theorem dM_most_37 : decode bM_most 37 = .ok (.iaload, 1) := by decide +kernel
theorem dM_most_38 : decode bM_most 38 = .ok (.ifCond .le 26, 3) := by decide +kernel
theorem dM_most_41 : decode bM_most 41 = .ok (.iload_n 3, 1) := by decide +kernel
theorem dM_most_42 : decode bM_most 42 = .ok (.ifCond .lt 19, 3) := by decide +kernel
theorem dM_most_45 : decode bM_most 45 = .ok (.aload_n 0, 1) := by decide +kernel
theorem dM_most_46 : decode bM_most 46 = .ok (.getfield 20, 3) := by decide +kernel
theorem dM_most_49 : decode bM_most 49 = .ok (.iload 4, 2) := by decide +kernel
theorem dM_most_51 : decode bM_most 51 = .ok (.iaload, 1) := by decide +kernel
theorem dM_most_52 : decode bM_most 52 = .ok (.aload_n 0, 1) := by decide +kernel
theorem dM_most_53 : decode bM_most 53 = .ok (.getfield 20, 3) := by decide +kernel
theorem dM_most_56 : decode bM_most 56 = .ok (.iload_n 3, 1) := by decide +kernel
theorem dM_most_57 : decode bM_most 57 = .ok (.iaload, 1) := by decide +kernel
theorem dM_most_58 : decode bM_most 58 = .ok (.if_icmp .le 6, 3) := by decide +kernel
theorem dM_most_61 : decode bM_most 61 = .ok (.iload 4, 2) := by decide +kernel
theorem dM_most_63 : decode bM_most 63 = .ok (.istore_n 3, 1) := by decide +kernel
theorem dM_most_64 : decode bM_most 64 = .ok (.iinc 4 1, 3) := by decide +kernel
theorem dM_most_67 : decode bM_most 67 = .ok (.goto (-44), 3) := by decide +kernel
theorem dM_most_70 : decode bM_most 70 = .ok (.iload_n 3, 1) := by decide +kernel
theorem dM_most_71 : decode bM_most 71 = .ok (.ireturn, 1) := by decide +kernel
theorem dM_count_0 : decode bM_count 0 = .ok (.aload_n 0, 1) := by decide +kernel
theorem dM_count_1 : decode bM_count 1 = .ok (.iconst 0, 1) := by decide +kernel
theorem dM_count_2 : decode bM_count 2 = .ok (.putfield 7, 3) := by decide +kernel
theorem dM_count_5 : decode bM_count 5 = .ok (.iload_n 1, 1) := by decide +kernel
theorem dM_count_6 : decode bM_count 6 = .ok (.ifCond .ne 10, 3) := by decide +kernel
theorem dM_count_9 : decode bM_count 9 = .ok (.aload_n 0, 1) := by decide +kernel
theorem dM_count_10 : decode bM_count 10 = .ok (.getfield 29, 3) := by decide +kernel
theorem dM_count_13 : decode bM_count 13 = .ok (.goto 16, 3) := by decide +kernel
theorem dM_count_16 : decode bM_count 16 = .ok (.iload_n 1, 1) := by decide +kernel
theorem dM_count_17 : decode bM_count 17 = .ok (.iconst 1, 1) := by decide +kernel
theorem dM_count_18 : decode bM_count 18 = .ok (.if_icmp .ne 10, 3) := by decide +kernel
theorem dM_count_21 : decode bM_count 21 = .ok (.aload_n 0, 1) := by decide +kernel
theorem dM_count_22 : decode bM_count 22 = .ok (.getfield 32, 3) := by decide +kernel
theorem dM_count_25 : decode bM_count 25 = .ok (.goto 4, 3) := by decide +kernel
theorem dM_count_28 : decode bM_count 28 = .ok (.iconst (-1), 1) := by decide +kernel
theorem dM_count_29 : decode bM_count 29 = .ok (.ireturn, 1) := by decide +kernel
end
section
theorem dW_law_0 : decode bW_law 0 = .ok (.new 8, 3) := by decide +kernel
theorem dW_law_3 : decode bW_law 3 = .ok (.dup, 1) := by decide +kernel
theorem dW_law_4 : decode bW_law 4 = .ok (.invokespecial 51, 3) := by decide +kernel
theorem dW_law_7 : decode bW_law 7 = .ok (.astore_n 1, 1) := by decide +kernel
theorem dW_law_8 : decode bW_law 8 = .ok (.new 52, 3) := by decide +kernel
theorem dW_law_11 : decode bW_law 11 = .ok (.dup, 1) := by decide +kernel
theorem dW_law_12 : decode bW_law 12 = .ok (.invokespecial 54, 3) := by decide +kernel
theorem dW_law_15 : decode bW_law 15 = .ok (.astore_n 2, 1) := by decide +kernel
theorem dW_law_16 : decode bW_law 16 = .ok (.iconst 1, 1) := by decide +kernel
theorem dW_law_17 : decode bW_law 17 = .ok (.newarray .long, 2) := by decide +kernel
theorem dW_law_19 : decode bW_law 19 = .ok (.astore_n 3, 1) := by decide +kernel
theorem dW_law_20 : decode bW_law 20 = .ok (.iconst 0, 1) := by decide +kernel
theorem dW_law_21 : decode bW_law 21 = .ok (.istore 4, 2) := by decide +kernel
theorem dW_law_23 : decode bW_law 23 = .ok (.iload 4, 2) := by decide +kernel
theorem dW_law_25 : decode bW_law 25 = .ok (.aload_n 0, 1) := by decide +kernel
theorem dW_law_26 : decode bW_law 26 = .ok (.arraylength, 1) := by decide +kernel
theorem dW_law_27 : decode bW_law 27 = .ok (.iconst 4, 1) := by decide +kernel
theorem dW_law_28 : decode bW_law 28 = .ok (.isub, 1) := by decide +kernel
theorem dW_law_29 : decode bW_law 29 = .ok (.if_icmp .gt 891, 3) := by decide +kernel
theorem dW_law_32 : decode bW_law 32 = .ok (.aload_n 0, 1) := by decide +kernel
theorem dW_law_33 : decode bW_law 33 = .ok (.iload 4, 2) := by decide +kernel
theorem dW_law_35 : decode bW_law 35 = .ok (.iaload, 1) := by decide +kernel
theorem dW_law_36 : decode bW_law 36 = .ok (.bipush 15, 2) := by decide +kernel
theorem dW_law_38 : decode bW_law 38 = .ok (.iand, 1) := by decide +kernel
theorem dW_law_39 : decode bW_law 39 = .ok (.tableswitch 875 0 12 #[65, 145, 201, 214, 270, 350, 418, 498, 578, 646, 702, 782, 850], 65) := by decide +kernel
theorem dW_law_104 : decode bW_law 104 = .ok (.aload_n 1, 1) := by decide +kernel
theorem dW_law_105 : decode bW_law 105 = .ok (.aload_n 0, 1) := by decide +kernel
theorem dW_law_106 : decode bW_law 106 = .ok (.iload 4, 2) := by decide +kernel
theorem dW_law_108 : decode bW_law 108 = .ok (.iconst 1, 1) := by decide +kernel
theorem dW_law_109 : decode bW_law 109 = .ok (.iadd, 1) := by decide +kernel
theorem dW_law_110 : decode bW_law 110 = .ok (.iaload, 1) := by decide +kernel
theorem dW_law_111 : decode bW_law 111 = .ok (.aload_n 0, 1) := by decide +kernel
theorem dW_law_112 : decode bW_law 112 = .ok (.iload 4, 2) := by decide +kernel
theorem dW_law_114 : decode bW_law 114 = .ok (.iconst 2, 1) := by decide +kernel
theorem dW_law_115 : decode bW_law 115 = .ok (.iadd, 1) := by decide +kernel
theorem dW_law_116 : decode bW_law 116 = .ok (.iaload, 1) := by decide +kernel
theorem dW_law_117 : decode bW_law 117 = .ok (.aload_n 0, 1) := by decide +kernel
theorem dW_law_118 : decode bW_law 118 = .ok (.iload 4, 2) := by decide +kernel
theorem dW_law_120 : decode bW_law 120 = .ok (.iconst 3, 1) := by decide +kernel
theorem dW_law_121 : decode bW_law 121 = .ok (.iadd, 1) := by decide +kernel
theorem dW_law_122 : decode bW_law 122 = .ok (.iaload, 1) := by decide +kernel
theorem dW_law_123 : decode bW_law 123 = .ok (.aload_n 3, 1) := by decide +kernel
theorem dW_law_124 : decode bW_law 124 = .ok (.invokestatic 55, 3) := by decide +kernel
theorem dW_law_127 : decode bW_law 127 = .ok (.istore 5, 2) := by decide +kernel
theorem dW_law_129 : decode bW_law 129 = .ok (.aload_n 2, 1) := by decide +kernel
theorem dW_law_130 : decode bW_law 130 = .ok (.aload_n 0, 1) := by decide +kernel
theorem dW_law_131 : decode bW_law 131 = .ok (.iload 4, 2) := by decide +kernel
theorem dW_law_133 : decode bW_law 133 = .ok (.iconst 1, 1) := by decide +kernel
theorem dW_law_134 : decode bW_law 134 = .ok (.iadd, 1) := by decide +kernel
theorem dW_law_135 : decode bW_law 135 = .ok (.iaload, 1) := by decide +kernel
theorem dW_law_136 : decode bW_law 136 = .ok (.aload_n 0, 1) := by decide +kernel
theorem dW_law_137 : decode bW_law 137 = .ok (.iload 4, 2) := by decide +kernel
theorem dW_law_139 : decode bW_law 139 = .ok (.iconst 2, 1) := by decide +kernel
theorem dW_law_140 : decode bW_law 140 = .ok (.iadd, 1) := by decide +kernel
theorem dW_law_141 : decode bW_law 141 = .ok (.iaload, 1) := by decide +kernel
theorem dW_law_142 : decode bW_law 142 = .ok (.aload_n 0, 1) := by decide +kernel
theorem dW_law_143 : decode bW_law 143 = .ok (.iload 4, 2) := by decide +kernel
theorem dW_law_145 : decode bW_law 145 = .ok (.iconst 3, 1) := by decide +kernel
theorem dW_law_146 : decode bW_law 146 = .ok (.iadd, 1) := by decide +kernel
theorem dW_law_147 : decode bW_law 147 = .ok (.iaload, 1) := by decide +kernel
theorem dW_law_148 : decode bW_law 148 = .ok (.invokevirtual 60, 3) := by decide +kernel
theorem dW_law_151 : decode bW_law 151 = .ok (.istore 6, 2) := by decide +kernel
theorem dW_law_153 : decode bW_law 153 = .ok (.aload_n 2, 1) := by decide +kernel
theorem dW_law_154 : decode bW_law 154 = .ok (.invokevirtual 61, 3) := by decide +kernel
theorem dW_law_157 : decode bW_law 157 = .ok (.iload 5, 2) := by decide +kernel
theorem dW_law_159 : decode bW_law 159 = .ok (.if_icmp .eq 5, 3) := by decide +kernel
theorem dW_law_162 : decode bW_law 162 = .ok (.iconst 0, 1) := by decide +kernel
theorem dW_law_163 : decode bW_law 163 = .ok (.ireturn, 1) := by decide +kernel
theorem dW_law_164 : decode bW_law 164 = .ok (.iload 5, 2) := by decide +kernel
theorem dW_law_166 : decode bW_law 166 = .ok (.ifCond .ne 15, 3) := by decide +kernel
theorem dW_law_169 : decode bW_law 169 = .ok (.aload_n 3, 1) := by decide +kernel
theorem dW_law_170 : decode bW_law 170 = .ok (.iconst 0, 1) := by decide +kernel
theorem dW_law_171 : decode bW_law 171 = .ok (.laload, 1) := by decide +kernel
theorem dW_law_172 : decode bW_law 172 = .ok (.iload 6, 2) := by decide +kernel
theorem dW_law_174 : decode bW_law 174 = .ok (.i2l, 1) := by decide +kernel
theorem dW_law_175 : decode bW_law 175 = .ok (.lcmp, 1) := by decide +kernel
theorem dW_law_176 : decode bW_law 176 = .ok (.ifCond .eq 5, 3) := by decide +kernel
theorem dW_law_179 : decode bW_law 179 = .ok (.iconst 0, 1) := by decide +kernel
theorem dW_law_180 : decode bW_law 180 = .ok (.ireturn, 1) := by decide +kernel
theorem dW_law_181 : decode bW_law 181 = .ok (.goto 733, 3) := by decide +kernel
theorem dW_law_184 : decode bW_law 184 = .ok (.aload_n 1, 1) := by decide +kernel
theorem dW_law_185 : decode bW_law 185 = .ok (.aload_n 0, 1) := by decide +kernel
theorem dW_law_186 : decode bW_law 186 = .ok (.iload 4, 2) := by decide +kernel
theorem dW_law_188 : decode bW_law 188 = .ok (.iconst 1, 1) := by decide +kernel
theorem dW_law_189 : decode bW_law 189 = .ok (.iadd, 1) := by decide +kernel
theorem dW_law_190 : decode bW_law 190 = .ok (.iaload, 1) := by decide +kernel
theorem dW_law_191 : decode bW_law 191 = .ok (.aload_n 3, 1) := by decide +kernel
theorem dW_law_192 : decode bW_law 192 = .ok (.invokestatic 65, 3) := by decide +kernel
theorem dW_law_195 : decode bW_law 195 = .ok (.istore 5, 2) := by decide +kernel
theorem dW_law_197 : decode bW_law 197 = .ok (.aload_n 2, 1) := by decide +kernel
theorem dW_law_198 : decode bW_law 198 = .ok (.aload_n 0, 1) := by decide +kernel
theorem dW_law_199 : decode bW_law 199 = .ok (.iload 4, 2) := by decide +kernel
theorem dW_law_201 : decode bW_law 201 = .ok (.iconst 1, 1) := by decide +kernel
theorem dW_law_202 : decode bW_law 202 = .ok (.iadd, 1) := by decide +kernel
theorem dW_law_203 : decode bW_law 203 = .ok (.iaload, 1) := by decide +kernel
theorem dW_law_204 : decode bW_law 204 = .ok (.invokevirtual 68, 3) := by decide +kernel
theorem dW_law_207 : decode bW_law 207 = .ok (.istore 6, 2) := by decide +kernel
theorem dW_law_209 : decode bW_law 209 = .ok (.aload_n 2, 1) := by decide +kernel
theorem dW_law_210 : decode bW_law 210 = .ok (.invokevirtual 61, 3) := by decide +kernel
theorem dW_law_213 : decode bW_law 213 = .ok (.iload 5, 2) := by decide +kernel
theorem dW_law_215 : decode bW_law 215 = .ok (.if_icmp .eq 5, 3) := by decide +kernel
theorem dW_law_218 : decode bW_law 218 = .ok (.iconst 0, 1) := by decide +kernel
theorem dW_law_219 : decode bW_law 219 = .ok (.ireturn, 1) := by decide +kernel
theorem dW_law_220 : decode bW_law 220 = .ok (.iload 5, 2) := by decide +kernel
theorem dW_law_222 : decode bW_law 222 = .ok (.ifCond .ne 15, 3) := by decide +kernel
theorem dW_law_225 : decode bW_law 225 = .ok (.aload_n 3, 1) := by decide +kernel
theorem dW_law_226 : decode bW_law 226 = .ok (.iconst 0, 1) := by decide +kernel
theorem dW_law_227 : decode bW_law 227 = .ok (.laload, 1) := by decide +kernel
theorem dW_law_228 : decode bW_law 228 = .ok (.iload 6, 2) := by decide +kernel
theorem dW_law_230 : decode bW_law 230 = .ok (.i2l, 1) := by decide +kernel
theorem dW_law_231 : decode bW_law 231 = .ok (.lcmp, 1) := by decide +kernel
theorem dW_law_232 : decode bW_law 232 = .ok (.ifCond .eq 5, 3) := by decide +kernel
theorem dW_law_235 : decode bW_law 235 = .ok (.iconst 0, 1) := by decide +kernel
theorem dW_law_236 : decode bW_law 236 = .ok (.ireturn, 1) := by decide +kernel
theorem dW_law_237 : decode bW_law 237 = .ok (.goto 677, 3) := by decide +kernel
theorem dW_law_240 : decode bW_law 240 = .ok (.aload_n 1, 1) := by decide +kernel
theorem dW_law_241 : decode bW_law 241 = .ok (.invokevirtual 69, 3) := by decide +kernel
theorem dW_law_244 : decode bW_law 244 = .ok (.aload_n 2, 1) := by decide +kernel
theorem dW_law_245 : decode bW_law 245 = .ok (.invokevirtual 72, 3) := by decide +kernel
theorem dW_law_248 : decode bW_law 248 = .ok (.if_icmp .eq 666, 3) := by decide +kernel
theorem dW_law_251 : decode bW_law 251 = .ok (.iconst 0, 1) := by decide +kernel
theorem dW_law_252 : decode bW_law 252 = .ok (.ireturn, 1) := by decide +kernel
theorem dW_law_253 : decode bW_law 253 = .ok (.aload_n 1, 1) := by decide +kernel
theorem dW_law_254 : decode bW_law 254 = .ok (.aload_n 0, 1) := by decide +kernel
theorem dW_law_255 : decode bW_law 255 = .ok (.iload 4, 2) := by decide +kernel
theorem dW_law_257 : decode bW_law 257 = .ok (.iconst 1, 1) := by decide +kernel
theorem dW_law_258 : decode bW_law 258 = .ok (.iadd, 1) := by decide +kernel
theorem dW_law_259 : decode bW_law 259 = .ok (.iaload, 1) := by decide +kernel
theorem dW_law_260 : decode bW_law 260 = .ok (.aload_n 3, 1) := by decide +kernel
theorem dW_law_261 : decode bW_law 261 = .ok (.invokestatic 73, 3) := by decide +kernel
theorem dW_law_264 : decode bW_law 264 = .ok (.istore 5, 2) := by decide +kernel
theorem dW_law_266 : decode bW_law 266 = .ok (.aload_n 2, 1) := by decide +kernel
theorem dW_law_267 : decode bW_law 267 = .ok (.aload_n 0, 1) := by decide +kernel
theorem dW_law_268 : decode bW_law 268 = .ok (.iload 4, 2) := by decide +kernel
theorem dW_law_270 : decode bW_law 270 = .ok (.iconst 1, 1) := by decide +kernel
theorem dW_law_271 : decode bW_law 271 = .ok (.iadd, 1) := by decide +kernel
theorem dW_law_272 : decode bW_law 272 = .ok (.iaload, 1) := by decide +kernel
theorem dW_law_273 : decode bW_law 273 = .ok (.invokevirtual 75, 3) := by decide +kernel
theorem dW_law_276 : decode bW_law 276 = .ok (.istore 6, 2) := by decide +kernel
theorem dW_law_278 : decode bW_law 278 = .ok (.aload_n 2, 1) := by decide +kernel
theorem dW_law_279 : decode bW_law 279 = .ok (.invokevirtual 61, 3) := by decide +kernel
theorem dW_law_282 : decode bW_law 282 = .ok (.iload 5, 2) := by decide +kernel
theorem dW_law_284 : decode bW_law 284 = .ok (.if_icmp .eq 5, 3) := by decide +kernel
theorem dW_law_287 : decode bW_law 287 = .ok (.iconst 0, 1) := by decide +kernel
theorem dW_law_288 : decode bW_law 288 = .ok (.ireturn, 1) := by decide +kernel
theorem dW_law_289 : decode bW_law 289 = .ok (.iload 5, 2) := by decide +kernel
theorem dW_law_291 : decode bW_law 291 = .ok (.ifCond .ne 15, 3) := by decide +kernel
theorem dW_law_294 : decode bW_law 294 = .ok (.aload_n 3, 1) := by decide +kernel
theorem dW_law_295 : decode bW_law 295 = .ok (.iconst 0, 1) := by decide +kernel
theorem dW_law_296 : decode bW_law 296 = .ok (.laload, 1) := by decide +kernel
theorem dW_law_297 : decode bW_law 297 = .ok (.iload 6, 2) := by decide +kernel
theorem dW_law_299 : decode bW_law 299 = .ok (.i2l, 1) := by decide +kernel
theorem dW_law_300 : decode bW_law 300 = .ok (.lcmp, 1) := by decide +kernel
theorem dW_law_301 : decode bW_law 301 = .ok (.ifCond .eq 5, 3) := by decide +kernel
theorem dW_law_304 : decode bW_law 304 = .ok (.iconst 0, 1) := by decide +kernel
theorem dW_law_305 : decode bW_law 305 = .ok (.ireturn, 1) := by decide +kernel
theorem dW_law_306 : decode bW_law 306 = .ok (.goto 608, 3) := by decide +kernel
theorem dW_law_309 : decode bW_law 309 = .ok (.aload_n 1, 1) := by decide +kernel
theorem dW_law_310 : decode bW_law 310 = .ok (.aload_n 0, 1) := by decide +kernel
theorem dW_law_311 : decode bW_law 311 = .ok (.iload 4, 2) := by decide +kernel
theorem dW_law_313 : decode bW_law 313 = .ok (.iconst 1, 1) := by decide +kernel
theorem dW_law_314 : decode bW_law 314 = .ok (.iadd, 1) := by decide +kernel
theorem dW_law_315 : decode bW_law 315 = .ok (.iaload, 1) := by decide +kernel
theorem dW_law_316 : decode bW_law 316 = .ok (.aload_n 0, 1) := by decide +kernel
theorem dW_law_317 : decode bW_law 317 = .ok (.iload 4, 2) := by decide +kernel
theorem dW_law_319 : decode bW_law 319 = .ok (.iconst 2, 1) := by decide +kernel
theorem dW_law_320 : decode bW_law 320 = .ok (.iadd, 1) := by decide +kernel
theorem dW_law_321 : decode bW_law 321 = .ok (.iaload, 1) := by decide +kernel
theorem dW_law_322 : decode bW_law 322 = .ok (.aload_n 0, 1) := by decide +kernel
theorem dW_law_323 : decode bW_law 323 = .ok (.iload 4, 2) := by decide +kernel
theorem dW_law_325 : decode bW_law 325 = .ok (.iconst 3, 1) := by decide +kernel
theorem dW_law_326 : decode bW_law 326 = .ok (.iadd, 1) := by decide +kernel
theorem dW_law_327 : decode bW_law 327 = .ok (.iaload, 1) := by decide +kernel
theorem dW_law_328 : decode bW_law 328 = .ok (.aload_n 3, 1) := by decide +kernel
theorem dW_law_329 : decode bW_law 329 = .ok (.invokestatic 76, 3) := by decide +kernel
theorem dW_law_332 : decode bW_law 332 = .ok (.istore 5, 2) := by decide +kernel
theorem dW_law_334 : decode bW_law 334 = .ok (.aload_n 2, 1) := by decide +kernel
theorem dW_law_335 : decode bW_law 335 = .ok (.aload_n 0, 1) := by decide +kernel
theorem dW_law_336 : decode bW_law 336 = .ok (.iload 4, 2) := by decide +kernel
theorem dW_law_338 : decode bW_law 338 = .ok (.iconst 1, 1) := by decide +kernel
theorem dW_law_339 : decode bW_law 339 = .ok (.iadd, 1) := by decide +kernel
theorem dW_law_340 : decode bW_law 340 = .ok (.iaload, 1) := by decide +kernel
theorem dW_law_341 : decode bW_law 341 = .ok (.aload_n 0, 1) := by decide +kernel
theorem dW_law_342 : decode bW_law 342 = .ok (.iload 4, 2) := by decide +kernel
theorem dW_law_344 : decode bW_law 344 = .ok (.iconst 2, 1) := by decide +kernel
theorem dW_law_345 : decode bW_law 345 = .ok (.iadd, 1) := by decide +kernel
theorem dW_law_346 : decode bW_law 346 = .ok (.iaload, 1) := by decide +kernel
theorem dW_law_347 : decode bW_law 347 = .ok (.aload_n 0, 1) := by decide +kernel
theorem dW_law_348 : decode bW_law 348 = .ok (.iload 4, 2) := by decide +kernel
theorem dW_law_350 : decode bW_law 350 = .ok (.iconst 3, 1) := by decide +kernel
theorem dW_law_351 : decode bW_law 351 = .ok (.iadd, 1) := by decide +kernel
theorem dW_law_352 : decode bW_law 352 = .ok (.iaload, 1) := by decide +kernel
theorem dW_law_353 : decode bW_law 353 = .ok (.invokevirtual 78, 3) := by decide +kernel
theorem dW_law_356 : decode bW_law 356 = .ok (.istore 6, 2) := by decide +kernel
theorem dW_law_358 : decode bW_law 358 = .ok (.aload_n 2, 1) := by decide +kernel
theorem dW_law_359 : decode bW_law 359 = .ok (.invokevirtual 61, 3) := by decide +kernel
theorem dW_law_362 : decode bW_law 362 = .ok (.iload 5, 2) := by decide +kernel
theorem dW_law_364 : decode bW_law 364 = .ok (.if_icmp .eq 5, 3) := by decide +kernel
theorem dW_law_367 : decode bW_law 367 = .ok (.iconst 0, 1) := by decide +kernel
theorem dW_law_368 : decode bW_law 368 = .ok (.ireturn, 1) := by decide +kernel
theorem dW_law_369 : decode bW_law 369 = .ok (.iload 5, 2) := by decide +kernel
theorem dW_law_371 : decode bW_law 371 = .ok (.ifCond .ne 15, 3) := by decide +kernel
theorem dW_law_374 : decode bW_law 374 = .ok (.aload_n 3, 1) := by decide +kernel
theorem dW_law_375 : decode bW_law 375 = .ok (.iconst 0, 1) := by decide +kernel
theorem dW_law_376 : decode bW_law 376 = .ok (.laload, 1) := by decide +kernel
theorem dW_law_377 : decode bW_law 377 = .ok (.iload 6, 2) := by decide +kernel
theorem dW_law_379 : decode bW_law 379 = .ok (.i2l, 1) := by decide +kernel
theorem dW_law_380 : decode bW_law 380 = .ok (.lcmp, 1) := by decide +kernel
theorem dW_law_381 : decode bW_law 381 = .ok (.ifCond .eq 5, 3) := by decide +kernel
theorem dW_law_384 : decode bW_law 384 = .ok (.iconst 0, 1) := by decide +kernel
theorem dW_law_385 : decode bW_law 385 = .ok (.ireturn, 1) := by decide +kernel
theorem dW_law_386 : decode bW_law 386 = .ok (.goto 528, 3) := by decide +kernel
theorem dW_law_389 : decode bW_law 389 = .ok (.aload_n 1, 1) := by decide +kernel
theorem dW_law_390 : decode bW_law 390 = .ok (.aload_n 0, 1) := by decide +kernel
theorem dW_law_391 : decode bW_law 391 = .ok (.iload 4, 2) := by decide +kernel
theorem dW_law_393 : decode bW_law 393 = .ok (.iconst 1, 1) := by decide +kernel
theorem dW_law_394 : decode bW_law 394 = .ok (.iadd, 1) := by decide +kernel
theorem dW_law_395 : decode bW_law 395 = .ok (.iaload, 1) := by decide +kernel
theorem dW_law_396 : decode bW_law 396 = .ok (.aload_n 0, 1) := by decide +kernel
theorem dW_law_397 : decode bW_law 397 = .ok (.iload 4, 2) := by decide +kernel
theorem dW_law_399 : decode bW_law 399 = .ok (.iconst 2, 1) := by decide +kernel
theorem dW_law_400 : decode bW_law 400 = .ok (.iadd, 1) := by decide +kernel
theorem dW_law_401 : decode bW_law 401 = .ok (.iaload, 1) := by decide +kernel
theorem dW_law_402 : decode bW_law 402 = .ok (.aload_n 3, 1) := by decide +kernel
theorem dW_law_403 : decode bW_law 403 = .ok (.invokestatic 79, 3) := by decide +kernel
theorem dW_law_406 : decode bW_law 406 = .ok (.istore 5, 2) := by decide +kernel
theorem dW_law_408 : decode bW_law 408 = .ok (.aload_n 2, 1) := by decide +kernel
theorem dW_law_409 : decode bW_law 409 = .ok (.aload_n 0, 1) := by decide +kernel
theorem dW_law_410 : decode bW_law 410 = .ok (.iload 4, 2) := by decide +kernel
theorem dW_law_412 : decode bW_law 412 = .ok (.iconst 1, 1) := by decide +kernel
theorem dW_law_413 : decode bW_law 413 = .ok (.iadd, 1) := by decide +kernel
theorem dW_law_414 : decode bW_law 414 = .ok (.iaload, 1) := by decide +kernel
theorem dW_law_415 : decode bW_law 415 = .ok (.aload_n 0, 1) := by decide +kernel
theorem dW_law_416 : decode bW_law 416 = .ok (.iload 4, 2) := by decide +kernel
theorem dW_law_418 : decode bW_law 418 = .ok (.iconst 2, 1) := by decide +kernel
theorem dW_law_419 : decode bW_law 419 = .ok (.iadd, 1) := by decide +kernel
theorem dW_law_420 : decode bW_law 420 = .ok (.iaload, 1) := by decide +kernel
theorem dW_law_421 : decode bW_law 421 = .ok (.invokevirtual 82, 3) := by decide +kernel
theorem dW_law_424 : decode bW_law 424 = .ok (.istore 6, 2) := by decide +kernel
theorem dW_law_426 : decode bW_law 426 = .ok (.aload_n 2, 1) := by decide +kernel
theorem dW_law_427 : decode bW_law 427 = .ok (.invokevirtual 61, 3) := by decide +kernel
theorem dW_law_430 : decode bW_law 430 = .ok (.iload 5, 2) := by decide +kernel
theorem dW_law_432 : decode bW_law 432 = .ok (.if_icmp .eq 5, 3) := by decide +kernel
theorem dW_law_435 : decode bW_law 435 = .ok (.iconst 0, 1) := by decide +kernel
theorem dW_law_436 : decode bW_law 436 = .ok (.ireturn, 1) := by decide +kernel
theorem dW_law_437 : decode bW_law 437 = .ok (.iload 5, 2) := by decide +kernel
theorem dW_law_439 : decode bW_law 439 = .ok (.ifCond .ne 15, 3) := by decide +kernel
theorem dW_law_442 : decode bW_law 442 = .ok (.aload_n 3, 1) := by decide +kernel
theorem dW_law_443 : decode bW_law 443 = .ok (.iconst 0, 1) := by decide +kernel
theorem dW_law_444 : decode bW_law 444 = .ok (.laload, 1) := by decide +kernel
theorem dW_law_445 : decode bW_law 445 = .ok (.iload 6, 2) := by decide +kernel
theorem dW_law_447 : decode bW_law 447 = .ok (.i2l, 1) := by decide +kernel
theorem dW_law_448 : decode bW_law 448 = .ok (.lcmp, 1) := by decide +kernel
theorem dW_law_449 : decode bW_law 449 = .ok (.ifCond .eq 5, 3) := by decide +kernel
theorem dW_law_452 : decode bW_law 452 = .ok (.iconst 0, 1) := by decide +kernel
theorem dW_law_453 : decode bW_law 453 = .ok (.ireturn, 1) := by decide +kernel
theorem dW_law_454 : decode bW_law 454 = .ok (.goto 460, 3) := by decide +kernel
theorem dW_law_457 : decode bW_law 457 = .ok (.aload_n 1, 1) := by decide +kernel
theorem dW_law_458 : decode bW_law 458 = .ok (.aload_n 0, 1) := by decide +kernel
theorem dW_law_459 : decode bW_law 459 = .ok (.iload 4, 2) := by decide +kernel
theorem dW_law_461 : decode bW_law 461 = .ok (.iconst 1, 1) := by decide +kernel
theorem dW_law_462 : decode bW_law 462 = .ok (.iadd, 1) := by decide +kernel
theorem dW_law_463 : decode bW_law 463 = .ok (.iaload, 1) := by decide +kernel
theorem dW_law_464 : decode bW_law 464 = .ok (.aload_n 0, 1) := by decide +kernel
theorem dW_law_465 : decode bW_law 465 = .ok (.iload 4, 2) := by decide +kernel
theorem dW_law_467 : decode bW_law 467 = .ok (.iconst 2, 1) := by decide +kernel
theorem dW_law_468 : decode bW_law 468 = .ok (.iadd, 1) := by decide +kernel
theorem dW_law_469 : decode bW_law 469 = .ok (.iaload, 1) := by decide +kernel
theorem dW_law_470 : decode bW_law 470 = .ok (.aload_n 0, 1) := by decide +kernel
theorem dW_law_471 : decode bW_law 471 = .ok (.iload 4, 2) := by decide +kernel
theorem dW_law_473 : decode bW_law 473 = .ok (.iconst 3, 1) := by decide +kernel
theorem dW_law_474 : decode bW_law 474 = .ok (.iadd, 1) := by decide +kernel
theorem dW_law_475 : decode bW_law 475 = .ok (.iaload, 1) := by decide +kernel
theorem dW_law_476 : decode bW_law 476 = .ok (.aload_n 3, 1) := by decide +kernel
theorem dW_law_477 : decode bW_law 477 = .ok (.invokestatic 83, 3) := by decide +kernel
theorem dW_law_480 : decode bW_law 480 = .ok (.istore 5, 2) := by decide +kernel
theorem dW_law_482 : decode bW_law 482 = .ok (.aload_n 2, 1) := by decide +kernel
theorem dW_law_483 : decode bW_law 483 = .ok (.aload_n 0, 1) := by decide +kernel
theorem dW_law_484 : decode bW_law 484 = .ok (.iload 4, 2) := by decide +kernel
theorem dW_law_486 : decode bW_law 486 = .ok (.iconst 1, 1) := by decide +kernel
theorem dW_law_487 : decode bW_law 487 = .ok (.iadd, 1) := by decide +kernel
theorem dW_law_488 : decode bW_law 488 = .ok (.iaload, 1) := by decide +kernel
theorem dW_law_489 : decode bW_law 489 = .ok (.aload_n 0, 1) := by decide +kernel
theorem dW_law_490 : decode bW_law 490 = .ok (.iload 4, 2) := by decide +kernel
theorem dW_law_492 : decode bW_law 492 = .ok (.iconst 2, 1) := by decide +kernel
theorem dW_law_493 : decode bW_law 493 = .ok (.iadd, 1) := by decide +kernel
theorem dW_law_494 : decode bW_law 494 = .ok (.iaload, 1) := by decide +kernel
theorem dW_law_495 : decode bW_law 495 = .ok (.aload_n 0, 1) := by decide +kernel
theorem dW_law_496 : decode bW_law 496 = .ok (.iload 4, 2) := by decide +kernel
theorem dW_law_498 : decode bW_law 498 = .ok (.iconst 3, 1) := by decide +kernel
theorem dW_law_499 : decode bW_law 499 = .ok (.iadd, 1) := by decide +kernel
theorem dW_law_500 : decode bW_law 500 = .ok (.iaload, 1) := by decide +kernel
theorem dW_law_501 : decode bW_law 501 = .ok (.invokevirtual 85, 3) := by decide +kernel
theorem dW_law_504 : decode bW_law 504 = .ok (.istore 6, 2) := by decide +kernel
theorem dW_law_506 : decode bW_law 506 = .ok (.aload_n 2, 1) := by decide +kernel
theorem dW_law_507 : decode bW_law 507 = .ok (.invokevirtual 61, 3) := by decide +kernel
theorem dW_law_510 : decode bW_law 510 = .ok (.iload 5, 2) := by decide +kernel
theorem dW_law_512 : decode bW_law 512 = .ok (.if_icmp .eq 5, 3) := by decide +kernel
theorem dW_law_515 : decode bW_law 515 = .ok (.iconst 0, 1) := by decide +kernel
theorem dW_law_516 : decode bW_law 516 = .ok (.ireturn, 1) := by decide +kernel
theorem dW_law_517 : decode bW_law 517 = .ok (.iload 5, 2) := by decide +kernel
theorem dW_law_519 : decode bW_law 519 = .ok (.ifCond .ne 15, 3) := by decide +kernel
theorem dW_law_522 : decode bW_law 522 = .ok (.aload_n 3, 1) := by decide +kernel
theorem dW_law_523 : decode bW_law 523 = .ok (.iconst 0, 1) := by decide +kernel
theorem dW_law_524 : decode bW_law 524 = .ok (.laload, 1) := by decide +kernel
theorem dW_law_525 : decode bW_law 525 = .ok (.iload 6, 2) := by decide +kernel
theorem dW_law_527 : decode bW_law 527 = .ok (.i2l, 1) := by decide +kernel
theorem dW_law_528 : decode bW_law 528 = .ok (.lcmp, 1) := by decide +kernel
theorem dW_law_529 : decode bW_law 529 = .ok (.ifCond .eq 5, 3) := by decide +kernel
theorem dW_law_532 : decode bW_law 532 = .ok (.iconst 0, 1) := by decide +kernel
theorem dW_law_533 : decode bW_law 533 = .ok (.ireturn, 1) := by decide +kernel
theorem dW_law_534 : decode bW_law 534 = .ok (.goto 380, 3) := by decide +kernel
theorem dW_law_537 : decode bW_law 537 = .ok (.aload_n 1, 1) := by decide +kernel
theorem dW_law_538 : decode bW_law 538 = .ok (.aload_n 0, 1) := by decide +kernel
theorem dW_law_539 : decode bW_law 539 = .ok (.iload 4, 2) := by decide +kernel
theorem dW_law_541 : decode bW_law 541 = .ok (.iconst 1, 1) := by decide +kernel
theorem dW_law_542 : decode bW_law 542 = .ok (.iadd, 1) := by decide +kernel
theorem dW_law_543 : decode bW_law 543 = .ok (.iaload, 1) := by decide +kernel
theorem dW_law_544 : decode bW_law 544 = .ok (.aload_n 0, 1) := by decide +kernel
theorem dW_law_545 : decode bW_law 545 = .ok (.iload 4, 2) := by decide +kernel
theorem dW_law_547 : decode bW_law 547 = .ok (.iconst 2, 1) := by decide +kernel
theorem dW_law_548 : decode bW_law 548 = .ok (.iadd, 1) := by decide +kernel
theorem dW_law_549 : decode bW_law 549 = .ok (.iaload, 1) := by decide +kernel
theorem dW_law_550 : decode bW_law 550 = .ok (.aload_n 0, 1) := by decide +kernel
theorem dW_law_551 : decode bW_law 551 = .ok (.iload 4, 2) := by decide +kernel
theorem dW_law_553 : decode bW_law 553 = .ok (.iconst 3, 1) := by decide +kernel
theorem dW_law_554 : decode bW_law 554 = .ok (.iadd, 1) := by decide +kernel
theorem dW_law_555 : decode bW_law 555 = .ok (.iaload, 1) := by decide +kernel
theorem dW_law_556 : decode bW_law 556 = .ok (.aload_n 3, 1) := by decide +kernel
theorem dW_law_557 : decode bW_law 557 = .ok (.invokestatic 86, 3) := by decide +kernel
theorem dW_law_560 : decode bW_law 560 = .ok (.istore 5, 2) := by decide +kernel
theorem dW_law_562 : decode bW_law 562 = .ok (.aload_n 2, 1) := by decide +kernel
theorem dW_law_563 : decode bW_law 563 = .ok (.aload_n 0, 1) := by decide +kernel
theorem dW_law_564 : decode bW_law 564 = .ok (.iload 4, 2) := by decide +kernel
theorem dW_law_566 : decode bW_law 566 = .ok (.iconst 1, 1) := by decide +kernel
theorem dW_law_567 : decode bW_law 567 = .ok (.iadd, 1) := by decide +kernel
theorem dW_law_568 : decode bW_law 568 = .ok (.iaload, 1) := by decide +kernel
theorem dW_law_569 : decode bW_law 569 = .ok (.aload_n 0, 1) := by decide +kernel
theorem dW_law_570 : decode bW_law 570 = .ok (.iload 4, 2) := by decide +kernel
theorem dW_law_572 : decode bW_law 572 = .ok (.iconst 2, 1) := by decide +kernel
theorem dW_law_573 : decode bW_law 573 = .ok (.iadd, 1) := by decide +kernel
theorem dW_law_574 : decode bW_law 574 = .ok (.iaload, 1) := by decide +kernel
theorem dW_law_575 : decode bW_law 575 = .ok (.aload_n 0, 1) := by decide +kernel
theorem dW_law_576 : decode bW_law 576 = .ok (.iload 4, 2) := by decide +kernel
theorem dW_law_578 : decode bW_law 578 = .ok (.iconst 3, 1) := by decide +kernel
theorem dW_law_579 : decode bW_law 579 = .ok (.iadd, 1) := by decide +kernel
theorem dW_law_580 : decode bW_law 580 = .ok (.iaload, 1) := by decide +kernel
theorem dW_law_581 : decode bW_law 581 = .ok (.invokevirtual 88, 3) := by decide +kernel
theorem dW_law_584 : decode bW_law 584 = .ok (.istore 6, 2) := by decide +kernel
theorem dW_law_586 : decode bW_law 586 = .ok (.aload_n 2, 1) := by decide +kernel
theorem dW_law_587 : decode bW_law 587 = .ok (.invokevirtual 61, 3) := by decide +kernel
theorem dW_law_590 : decode bW_law 590 = .ok (.iload 5, 2) := by decide +kernel
theorem dW_law_592 : decode bW_law 592 = .ok (.if_icmp .eq 5, 3) := by decide +kernel
theorem dW_law_595 : decode bW_law 595 = .ok (.iconst 0, 1) := by decide +kernel
theorem dW_law_596 : decode bW_law 596 = .ok (.ireturn, 1) := by decide +kernel
theorem dW_law_597 : decode bW_law 597 = .ok (.iload 5, 2) := by decide +kernel
theorem dW_law_599 : decode bW_law 599 = .ok (.ifCond .ne 15, 3) := by decide +kernel
theorem dW_law_602 : decode bW_law 602 = .ok (.aload_n 3, 1) := by decide +kernel
theorem dW_law_603 : decode bW_law 603 = .ok (.iconst 0, 1) := by decide +kernel
theorem dW_law_604 : decode bW_law 604 = .ok (.laload, 1) := by decide +kernel
theorem dW_law_605 : decode bW_law 605 = .ok (.iload 6, 2) := by decide +kernel
theorem dW_law_607 : decode bW_law 607 = .ok (.i2l, 1) := by decide +kernel
theorem dW_law_608 : decode bW_law 608 = .ok (.lcmp, 1) := by decide +kernel
theorem dW_law_609 : decode bW_law 609 = .ok (.ifCond .eq 5, 3) := by decide +kernel
theorem dW_law_612 : decode bW_law 612 = .ok (.iconst 0, 1) := by decide +kernel
theorem dW_law_613 : decode bW_law 613 = .ok (.ireturn, 1) := by decide +kernel
theorem dW_law_614 : decode bW_law 614 = .ok (.goto 300, 3) := by decide +kernel
theorem dW_law_617 : decode bW_law 617 = .ok (.aload_n 1, 1) := by decide +kernel
theorem dW_law_618 : decode bW_law 618 = .ok (.aload_n 0, 1) := by decide +kernel
theorem dW_law_619 : decode bW_law 619 = .ok (.iload 4, 2) := by decide +kernel
theorem dW_law_621 : decode bW_law 621 = .ok (.iconst 1, 1) := by decide +kernel
theorem dW_law_622 : decode bW_law 622 = .ok (.iadd, 1) := by decide +kernel
theorem dW_law_623 : decode bW_law 623 = .ok (.iaload, 1) := by decide +kernel
theorem dW_law_624 : decode bW_law 624 = .ok (.aload_n 0, 1) := by decide +kernel
theorem dW_law_625 : decode bW_law 625 = .ok (.iload 4, 2) := by decide +kernel
theorem dW_law_627 : decode bW_law 627 = .ok (.iconst 2, 1) := by decide +kernel
theorem dW_law_628 : decode bW_law 628 = .ok (.iadd, 1) := by decide +kernel
theorem dW_law_629 : decode bW_law 629 = .ok (.iaload, 1) := by decide +kernel
theorem dW_law_630 : decode bW_law 630 = .ok (.aload_n 3, 1) := by decide +kernel
theorem dW_law_631 : decode bW_law 631 = .ok (.invokestatic 89, 3) := by decide +kernel
theorem dW_law_634 : decode bW_law 634 = .ok (.istore 5, 2) := by decide +kernel
theorem dW_law_636 : decode bW_law 636 = .ok (.aload_n 2, 1) := by decide +kernel
theorem dW_law_637 : decode bW_law 637 = .ok (.aload_n 0, 1) := by decide +kernel
theorem dW_law_638 : decode bW_law 638 = .ok (.iload 4, 2) := by decide +kernel
theorem dW_law_640 : decode bW_law 640 = .ok (.iconst 1, 1) := by decide +kernel
theorem dW_law_641 : decode bW_law 641 = .ok (.iadd, 1) := by decide +kernel
theorem dW_law_642 : decode bW_law 642 = .ok (.iaload, 1) := by decide +kernel
theorem dW_law_643 : decode bW_law 643 = .ok (.aload_n 0, 1) := by decide +kernel
theorem dW_law_644 : decode bW_law 644 = .ok (.iload 4, 2) := by decide +kernel
theorem dW_law_646 : decode bW_law 646 = .ok (.iconst 2, 1) := by decide +kernel
theorem dW_law_647 : decode bW_law 647 = .ok (.iadd, 1) := by decide +kernel
theorem dW_law_648 : decode bW_law 648 = .ok (.iaload, 1) := by decide +kernel
theorem dW_law_649 : decode bW_law 649 = .ok (.invokevirtual 91, 3) := by decide +kernel
theorem dW_law_652 : decode bW_law 652 = .ok (.istore 6, 2) := by decide +kernel
theorem dW_law_654 : decode bW_law 654 = .ok (.aload_n 2, 1) := by decide +kernel
theorem dW_law_655 : decode bW_law 655 = .ok (.invokevirtual 61, 3) := by decide +kernel
theorem dW_law_658 : decode bW_law 658 = .ok (.iload 5, 2) := by decide +kernel
theorem dW_law_660 : decode bW_law 660 = .ok (.if_icmp .eq 5, 3) := by decide +kernel
theorem dW_law_663 : decode bW_law 663 = .ok (.iconst 0, 1) := by decide +kernel
theorem dW_law_664 : decode bW_law 664 = .ok (.ireturn, 1) := by decide +kernel
theorem dW_law_665 : decode bW_law 665 = .ok (.iload 5, 2) := by decide +kernel
theorem dW_law_667 : decode bW_law 667 = .ok (.ifCond .ne 15, 3) := by decide +kernel
theorem dW_law_670 : decode bW_law 670 = .ok (.aload_n 3, 1) := by decide +kernel
theorem dW_law_671 : decode bW_law 671 = .ok (.iconst 0, 1) := by decide +kernel
theorem dW_law_672 : decode bW_law 672 = .ok (.laload, 1) := by decide +kernel
theorem dW_law_673 : decode bW_law 673 = .ok (.iload 6, 2) := by decide +kernel
theorem dW_law_675 : decode bW_law 675 = .ok (.i2l, 1) := by decide +kernel
theorem dW_law_676 : decode bW_law 676 = .ok (.lcmp, 1) := by decide +kernel
theorem dW_law_677 : decode bW_law 677 = .ok (.ifCond .eq 5, 3) := by decide +kernel
theorem dW_law_680 : decode bW_law 680 = .ok (.iconst 0, 1) := by decide +kernel
theorem dW_law_681 : decode bW_law 681 = .ok (.ireturn, 1) := by decide +kernel
theorem dW_law_682 : decode bW_law 682 = .ok (.goto 232, 3) := by decide +kernel
theorem dW_law_685 : decode bW_law 685 = .ok (.aload_n 1, 1) := by decide +kernel
theorem dW_law_686 : decode bW_law 686 = .ok (.aload_n 0, 1) := by decide +kernel
theorem dW_law_687 : decode bW_law 687 = .ok (.iload 4, 2) := by decide +kernel
theorem dW_law_689 : decode bW_law 689 = .ok (.iconst 1, 1) := by decide +kernel
theorem dW_law_690 : decode bW_law 690 = .ok (.iadd, 1) := by decide +kernel
theorem dW_law_691 : decode bW_law 691 = .ok (.iaload, 1) := by decide +kernel
theorem dW_law_692 : decode bW_law 692 = .ok (.aload_n 3, 1) := by decide +kernel
theorem dW_law_693 : decode bW_law 693 = .ok (.invokestatic 92, 3) := by decide +kernel
theorem dW_law_696 : decode bW_law 696 = .ok (.istore 5, 2) := by decide +kernel
theorem dW_law_698 : decode bW_law 698 = .ok (.aload_n 2, 1) := by decide +kernel
theorem dW_law_699 : decode bW_law 699 = .ok (.aload_n 0, 1) := by decide +kernel
theorem dW_law_700 : decode bW_law 700 = .ok (.iload 4, 2) := by decide +kernel
theorem dW_law_702 : decode bW_law 702 = .ok (.iconst 1, 1) := by decide +kernel
theorem dW_law_703 : decode bW_law 703 = .ok (.iadd, 1) := by decide +kernel
theorem dW_law_704 : decode bW_law 704 = .ok (.iaload, 1) := by decide +kernel
theorem dW_law_705 : decode bW_law 705 = .ok (.invokevirtual 94, 3) := by decide +kernel
theorem dW_law_708 : decode bW_law 708 = .ok (.istore 6, 2) := by decide +kernel
theorem dW_law_710 : decode bW_law 710 = .ok (.aload_n 2, 1) := by decide +kernel
theorem dW_law_711 : decode bW_law 711 = .ok (.invokevirtual 61, 3) := by decide +kernel
theorem dW_law_714 : decode bW_law 714 = .ok (.iload 5, 2) := by decide +kernel
theorem dW_law_716 : decode bW_law 716 = .ok (.if_icmp .eq 5, 3) := by decide +kernel
theorem dW_law_719 : decode bW_law 719 = .ok (.iconst 0, 1) := by decide +kernel
theorem dW_law_720 : decode bW_law 720 = .ok (.ireturn, 1) := by decide +kernel
theorem dW_law_721 : decode bW_law 721 = .ok (.iload 5, 2) := by decide +kernel
theorem dW_law_723 : decode bW_law 723 = .ok (.ifCond .ne 15, 3) := by decide +kernel
theorem dW_law_726 : decode bW_law 726 = .ok (.aload_n 3, 1) := by decide +kernel
theorem dW_law_727 : decode bW_law 727 = .ok (.iconst 0, 1) := by decide +kernel
theorem dW_law_728 : decode bW_law 728 = .ok (.laload, 1) := by decide +kernel
theorem dW_law_729 : decode bW_law 729 = .ok (.iload 6, 2) := by decide +kernel
theorem dW_law_731 : decode bW_law 731 = .ok (.i2l, 1) := by decide +kernel
theorem dW_law_732 : decode bW_law 732 = .ok (.lcmp, 1) := by decide +kernel
theorem dW_law_733 : decode bW_law 733 = .ok (.ifCond .eq 5, 3) := by decide +kernel
theorem dW_law_736 : decode bW_law 736 = .ok (.iconst 0, 1) := by decide +kernel
theorem dW_law_737 : decode bW_law 737 = .ok (.ireturn, 1) := by decide +kernel
theorem dW_law_738 : decode bW_law 738 = .ok (.goto 176, 3) := by decide +kernel
theorem dW_law_741 : decode bW_law 741 = .ok (.aload_n 1, 1) := by decide +kernel
theorem dW_law_742 : decode bW_law 742 = .ok (.aload_n 0, 1) := by decide +kernel
theorem dW_law_743 : decode bW_law 743 = .ok (.iload 4, 2) := by decide +kernel
theorem dW_law_745 : decode bW_law 745 = .ok (.iconst 1, 1) := by decide +kernel
theorem dW_law_746 : decode bW_law 746 = .ok (.iadd, 1) := by decide +kernel
theorem dW_law_747 : decode bW_law 747 = .ok (.iaload, 1) := by decide +kernel
theorem dW_law_748 : decode bW_law 748 = .ok (.aload_n 0, 1) := by decide +kernel
theorem dW_law_749 : decode bW_law 749 = .ok (.iload 4, 2) := by decide +kernel
theorem dW_law_751 : decode bW_law 751 = .ok (.iconst 2, 1) := by decide +kernel
theorem dW_law_752 : decode bW_law 752 = .ok (.iadd, 1) := by decide +kernel
theorem dW_law_753 : decode bW_law 753 = .ok (.iaload, 1) := by decide +kernel
theorem dW_law_754 : decode bW_law 754 = .ok (.aload_n 0, 1) := by decide +kernel
theorem dW_law_755 : decode bW_law 755 = .ok (.iload 4, 2) := by decide +kernel
theorem dW_law_757 : decode bW_law 757 = .ok (.iconst 3, 1) := by decide +kernel
theorem dW_law_758 : decode bW_law 758 = .ok (.iadd, 1) := by decide +kernel
theorem dW_law_759 : decode bW_law 759 = .ok (.iaload, 1) := by decide +kernel
theorem dW_law_760 : decode bW_law 760 = .ok (.aload_n 3, 1) := by decide +kernel
theorem dW_law_761 : decode bW_law 761 = .ok (.invokestatic 95, 3) := by decide +kernel
theorem dW_law_764 : decode bW_law 764 = .ok (.istore 5, 2) := by decide +kernel
theorem dW_law_766 : decode bW_law 766 = .ok (.aload_n 2, 1) := by decide +kernel
theorem dW_law_767 : decode bW_law 767 = .ok (.aload_n 0, 1) := by decide +kernel
theorem dW_law_768 : decode bW_law 768 = .ok (.iload 4, 2) := by decide +kernel
theorem dW_law_770 : decode bW_law 770 = .ok (.iconst 1, 1) := by decide +kernel
theorem dW_law_771 : decode bW_law 771 = .ok (.iadd, 1) := by decide +kernel
theorem dW_law_772 : decode bW_law 772 = .ok (.iaload, 1) := by decide +kernel
theorem dW_law_773 : decode bW_law 773 = .ok (.aload_n 0, 1) := by decide +kernel
theorem dW_law_774 : decode bW_law 774 = .ok (.iload 4, 2) := by decide +kernel
theorem dW_law_776 : decode bW_law 776 = .ok (.iconst 2, 1) := by decide +kernel
theorem dW_law_777 : decode bW_law 777 = .ok (.iadd, 1) := by decide +kernel
theorem dW_law_778 : decode bW_law 778 = .ok (.iaload, 1) := by decide +kernel
theorem dW_law_779 : decode bW_law 779 = .ok (.aload_n 0, 1) := by decide +kernel
theorem dW_law_780 : decode bW_law 780 = .ok (.iload 4, 2) := by decide +kernel
theorem dW_law_782 : decode bW_law 782 = .ok (.iconst 3, 1) := by decide +kernel
theorem dW_law_783 : decode bW_law 783 = .ok (.iadd, 1) := by decide +kernel
theorem dW_law_784 : decode bW_law 784 = .ok (.iaload, 1) := by decide +kernel
theorem dW_law_785 : decode bW_law 785 = .ok (.invokevirtual 97, 3) := by decide +kernel
theorem dW_law_788 : decode bW_law 788 = .ok (.istore 6, 2) := by decide +kernel
theorem dW_law_790 : decode bW_law 790 = .ok (.aload_n 2, 1) := by decide +kernel
theorem dW_law_791 : decode bW_law 791 = .ok (.invokevirtual 61, 3) := by decide +kernel
theorem dW_law_794 : decode bW_law 794 = .ok (.iload 5, 2) := by decide +kernel
theorem dW_law_796 : decode bW_law 796 = .ok (.if_icmp .eq 5, 3) := by decide +kernel
theorem dW_law_799 : decode bW_law 799 = .ok (.iconst 0, 1) := by decide +kernel
theorem dW_law_800 : decode bW_law 800 = .ok (.ireturn, 1) := by decide +kernel
theorem dW_law_801 : decode bW_law 801 = .ok (.iload 5, 2) := by decide +kernel
theorem dW_law_803 : decode bW_law 803 = .ok (.ifCond .ne 15, 3) := by decide +kernel
theorem dW_law_806 : decode bW_law 806 = .ok (.aload_n 3, 1) := by decide +kernel
theorem dW_law_807 : decode bW_law 807 = .ok (.iconst 0, 1) := by decide +kernel
theorem dW_law_808 : decode bW_law 808 = .ok (.laload, 1) := by decide +kernel
theorem dW_law_809 : decode bW_law 809 = .ok (.iload 6, 2) := by decide +kernel
theorem dW_law_811 : decode bW_law 811 = .ok (.i2l, 1) := by decide +kernel
theorem dW_law_812 : decode bW_law 812 = .ok (.lcmp, 1) := by decide +kernel
theorem dW_law_813 : decode bW_law 813 = .ok (.ifCond .eq 5, 3) := by decide +kernel
theorem dW_law_816 : decode bW_law 816 = .ok (.iconst 0, 1) := by decide +kernel
theorem dW_law_817 : decode bW_law 817 = .ok (.ireturn, 1) := by decide +kernel
theorem dW_law_818 : decode bW_law 818 = .ok (.goto 96, 3) := by decide +kernel
theorem dW_law_821 : decode bW_law 821 = .ok (.aload_n 1, 1) := by decide +kernel
theorem dW_law_822 : decode bW_law 822 = .ok (.aload_n 0, 1) := by decide +kernel
theorem dW_law_823 : decode bW_law 823 = .ok (.iload 4, 2) := by decide +kernel
theorem dW_law_825 : decode bW_law 825 = .ok (.iconst 1, 1) := by decide +kernel
theorem dW_law_826 : decode bW_law 826 = .ok (.iadd, 1) := by decide +kernel
theorem dW_law_827 : decode bW_law 827 = .ok (.iaload, 1) := by decide +kernel
theorem dW_law_828 : decode bW_law 828 = .ok (.aload_n 0, 1) := by decide +kernel
theorem dW_law_829 : decode bW_law 829 = .ok (.iload 4, 2) := by decide +kernel
theorem dW_law_831 : decode bW_law 831 = .ok (.iconst 2, 1) := by decide +kernel
theorem dW_law_832 : decode bW_law 832 = .ok (.iadd, 1) := by decide +kernel
theorem dW_law_833 : decode bW_law 833 = .ok (.iaload, 1) := by decide +kernel
theorem dW_law_834 : decode bW_law 834 = .ok (.aload_n 3, 1) := by decide +kernel
theorem dW_law_835 : decode bW_law 835 = .ok (.invokestatic 98, 3) := by decide +kernel
theorem dW_law_838 : decode bW_law 838 = .ok (.istore 5, 2) := by decide +kernel
theorem dW_law_840 : decode bW_law 840 = .ok (.aload_n 2, 1) := by decide +kernel
theorem dW_law_841 : decode bW_law 841 = .ok (.aload_n 0, 1) := by decide +kernel
theorem dW_law_842 : decode bW_law 842 = .ok (.iload 4, 2) := by decide +kernel
theorem dW_law_844 : decode bW_law 844 = .ok (.iconst 1, 1) := by decide +kernel
theorem dW_law_845 : decode bW_law 845 = .ok (.iadd, 1) := by decide +kernel
theorem dW_law_846 : decode bW_law 846 = .ok (.iaload, 1) := by decide +kernel
theorem dW_law_847 : decode bW_law 847 = .ok (.aload_n 0, 1) := by decide +kernel
theorem dW_law_848 : decode bW_law 848 = .ok (.iload 4, 2) := by decide +kernel
theorem dW_law_850 : decode bW_law 850 = .ok (.iconst 2, 1) := by decide +kernel
theorem dW_law_851 : decode bW_law 851 = .ok (.iadd, 1) := by decide +kernel
theorem dW_law_852 : decode bW_law 852 = .ok (.iaload, 1) := by decide +kernel
theorem dW_law_853 : decode bW_law 853 = .ok (.invokevirtual 100, 3) := by decide +kernel
theorem dW_law_856 : decode bW_law 856 = .ok (.istore 6, 2) := by decide +kernel
theorem dW_law_858 : decode bW_law 858 = .ok (.aload_n 2, 1) := by decide +kernel
theorem dW_law_859 : decode bW_law 859 = .ok (.invokevirtual 61, 3) := by decide +kernel
theorem dW_law_862 : decode bW_law 862 = .ok (.iload 5, 2) := by decide +kernel
theorem dW_law_864 : decode bW_law 864 = .ok (.if_icmp .eq 5, 3) := by decide +kernel
theorem dW_law_867 : decode bW_law 867 = .ok (.iconst 0, 1) := by decide +kernel
theorem dW_law_868 : decode bW_law 868 = .ok (.ireturn, 1) := by decide +kernel
theorem dW_law_869 : decode bW_law 869 = .ok (.iload 5, 2) := by decide +kernel
theorem dW_law_871 : decode bW_law 871 = .ok (.ifCond .ne 15, 3) := by decide +kernel
theorem dW_law_874 : decode bW_law 874 = .ok (.aload_n 3, 1) := by decide +kernel
theorem dW_law_875 : decode bW_law 875 = .ok (.iconst 0, 1) := by decide +kernel
theorem dW_law_876 : decode bW_law 876 = .ok (.laload, 1) := by decide +kernel
theorem dW_law_877 : decode bW_law 877 = .ok (.iload 6, 2) := by decide +kernel
theorem dW_law_879 : decode bW_law 879 = .ok (.i2l, 1) := by decide +kernel
theorem dW_law_880 : decode bW_law 880 = .ok (.lcmp, 1) := by decide +kernel
theorem dW_law_881 : decode bW_law 881 = .ok (.ifCond .eq 5, 3) := by decide +kernel
theorem dW_law_884 : decode bW_law 884 = .ok (.iconst 0, 1) := by decide +kernel
theorem dW_law_885 : decode bW_law 885 = .ok (.ireturn, 1) := by decide +kernel
theorem dW_law_886 : decode bW_law 886 = .ok (.goto 28, 3) := by decide +kernel
theorem dW_law_889 : decode bW_law 889 = .ok (.aload_n 1, 1) := by decide +kernel
theorem dW_law_890 : decode bW_law 890 = .ok (.aload_n 0, 1) := by decide +kernel
theorem dW_law_891 : decode bW_law 891 = .ok (.iload 4, 2) := by decide +kernel
theorem dW_law_893 : decode bW_law 893 = .ok (.iconst 1, 1) := by decide +kernel
theorem dW_law_894 : decode bW_law 894 = .ok (.iadd, 1) := by decide +kernel
theorem dW_law_895 : decode bW_law 895 = .ok (.iaload, 1) := by decide +kernel
theorem dW_law_896 : decode bW_law 896 = .ok (.invokevirtual 101, 3) := by decide +kernel
theorem dW_law_899 : decode bW_law 899 = .ok (.aload_n 2, 1) := by decide +kernel
theorem dW_law_900 : decode bW_law 900 = .ok (.aload_n 0, 1) := by decide +kernel
theorem dW_law_901 : decode bW_law 901 = .ok (.iload 4, 2) := by decide +kernel
theorem dW_law_903 : decode bW_law 903 = .ok (.iconst 1, 1) := by decide +kernel
theorem dW_law_904 : decode bW_law 904 = .ok (.iadd, 1) := by decide +kernel
theorem dW_law_905 : decode bW_law 905 = .ok (.iaload, 1) := by decide +kernel
theorem dW_law_906 : decode bW_law 906 = .ok (.invokevirtual 104, 3) := by decide +kernel
theorem dW_law_909 : decode bW_law 909 = .ok (.if_icmp .eq 5, 3) := by decide +kernel
theorem dW_law_912 : decode bW_law 912 = .ok (.iconst 0, 1) := by decide +kernel
theorem dW_law_913 : decode bW_law 913 = .ok (.ireturn, 1) := by decide +kernel
theorem dW_law_914 : decode bW_law 914 = .ok (.iinc 4 4, 3) := by decide +kernel
theorem dW_law_917 : decode bW_law 917 = .ok (.goto (-894), 3) := by decide +kernel
theorem dW_law_920 : decode bW_law 920 = .ok (.iconst 1, 1) := by decide +kernel
theorem dW_law_921 : decode bW_law 921 = .ok (.ireturn, 1) := by decide +kernel
end
section
/-! a thrown object is caught by a row of the method's own table, the row's class linked or not yet -/
section CX
theorem cx_row {Q : Handler → Pre} {E : CtlPost} {e : Env} {d : Bool} {acts : List Action} {s : State} {f : JFrame} {a : Addr} {z : ExceptionTableEntry} {t : List ExceptionTableEntry} {k : ClassId} {ce : Cell} (hz : covers z f.pc = true) (h0 : z.catchType ≠ 0)
    (hl : s.vm.ClassLinks e.platform f.method.cls z.catchType k) (hce : s.heap[a]? = some ce) (ho : ∀ i, ce.vm ≠ .statics i) (hk1 : ∃ q, s.vm.classes[ce.cls]? = some q) (hk2 : ∃ q, s.vm.classes[k]? = some q) {bb : Bool} (hb : s.vm.assignable ce.cls k = bb) :
    wp (findHandler.go f a (z :: t)) Q E e d acts s ↔ if bb = true then Q (.found z.handlerPc) d acts (s.setVm (s.vm.noted f.method.cls z.catchType (.cls k))) else wp (findHandler.go f a t) Q E e d acts (s.setVm (s.vm.noted f.method.cls z.catchType (.cls k))) := by
  have hz' : (decide (z.startPc ≤ f.pc) && decide (f.pc < z.endPc)) = true := hz
  obtain ⟨g1, g2⟩ := (resolveClass_links e.toSetting hl).op (op := VmOp.resolveClass f.method.cls z.catchType) rfl
  have hal : s.vm.Alike (s.vm.noted f.method.cls z.catchType (.cls k)) := (Vm.Alike.refl s.vm).noted _ _ _
  obtain ⟨q1, hq1⟩ := hk1
  obtain ⟨q2, hq2⟩ := hk2
  obtain ⟨r1, hr1, -⟩ := hal.2.2 _ _ hq1
  obtain ⟨r2, hr2, -⟩ := hal.2.2 _ _ hq2
  have hb' : (s.vm.noted f.method.cls z.catchType (.cls k)).assignable ce.cls k = bb := by rw [hal.assignable]; exact hb
  cases bb <;> simp [findHandler.go, hz', h0, g1, g2, hce, ho, hr1, hr2, hb', VmOp.dirties, VmOp.acts]
/-- rows ahead that name other classes, then the row that takes it -/
theorem cx_find {e : Env} {s0 : State} {f : JFrame} {a : Addr} {ce : Cell} (ho : ∀ i, ce.vm ≠ .statics i) (hk1 : ∃ q, s0.vm.classes[ce.cls]? = some q) {z : ExceptionTableEntry} {suf : List ExceptionTableEntry} {k : ClassId} (hz : covers z f.pc = true) (h0 : z.catchType ≠ 0)
    (hl : s0.vm.ClassLinks e.platform f.method.cls z.catchType k) (hk2 : ∃ q, s0.vm.classes[k]? = some q) (hb : s0.vm.assignable ce.cls k = true) :
    ∀ (pre : List ExceptionTableEntry), (∀ y ∈ pre, covers y f.pc = true ∧ y.catchType ≠ 0 ∧ ∃ j, s0.vm.ClassLinks e.platform f.method.cls y.catchType j ∧ (∃ q, s0.vm.classes[j]? = some q) ∧ s0.vm.assignable ce.cls j = false) →
    ∀ S : State, s0.WarmedH S.vm → S.heap[a]? = some ce → ∃ v : Vm, s0.WarmedH v ∧ ∀ (Q : Handler → Pre) (E : CtlPost) (d : Bool) (acts : List Action), wp (findHandler.go f a (pre ++ z :: suf)) Q E e d acts S ↔ Q (.found z.handlerPc) d acts (S.setVm v) := by
  have up : ∀ (S : State) (i : ClassId), s0.WarmedH S.vm → (∃ q, s0.vm.classes[i]? = some q) → ∃ q, S.vm.classes[i]? = some q := fun S i hW ⟨q, hq⟩ => by
    obtain ⟨r, hr, -⟩ := hW.alike.2.2 _ _ hq
    exact ⟨r, hr⟩
  have nt : ∀ (S : State) (y : ExceptionTableEntry) (j : ClassId), s0.WarmedH S.vm → s0.vm.ClassLinks e.platform f.method.cls y.catchType j → s0.WarmedH (S.vm.noted f.method.cls y.catchType (.cls j)) := fun S y j hW hj => by
    obtain ⟨dk, _, _, kt, hd, _, _, _, _, hkt, _, hopen⟩ := hj.here
    exact hW.noted hd hopen (State.rightAt_cls hj)
  intro pre
  induction pre with
  | nil =>
    intro _ S hW hce
    refine ⟨_, nt S z k hW hl, fun Q E d acts => ?_⟩
    rw [List.nil_append, cx_row hz h0 (hW.classLinks hl) hce ho (up S _ hW hk1) (up S _ hW hk2) (bb := true) (by rw [hW.alike.assignable]; exact hb), if_pos rfl]
  | cons y ys ih =>
    intro hp S hW hce
    obtain ⟨hy, hy0, j, hj, hjk, hjb⟩ := hp y List.mem_cons_self
    obtain ⟨v, hv, hq⟩ := ih (fun w hw => hp w (List.mem_cons_of_mem _ hw)) (S.setVm (S.vm.noted f.method.cls y.catchType (.cls j))) (nt S y j hW hj) hce
    refine ⟨v, hv, fun Q E d acts => ?_⟩
    rw [List.cons_append, cx_row hy hy0 (hW.classLinks hj) hce ho (up S _ hW hk1) (up S _ hW hjk) (bb := false) (by rw [hW.alike.assignable]; exact hjb), if_neg (by decide)]
    exact hq Q E d acts
variable {p : Program} {l : Launch} {e : Env} {R : Room} {s : State} {m : MethodId} {args : Array Value} {below : List Frame} {meth : Method} {c : Code} {H : Heap} {locs : List Loc} {cells slots : Nat} {Q : State → Prop} {pc : Nat} {ls : Array Slot} {rest : List Value}
theorem cx_catch {own name E : String} {ce : Cell} {q : Addr} (hown : s.vm.findClass own = some m.cls) (pre : List ExceptionTableEntry) (z : ExceptionTableEntry) (suf : List ExceptionTableEntry) (hs : c.exceptionTable.toList = pre ++ z :: suf)
    (hpass : ∀ y ∈ pre, covers y pc = true ∧ y.catchType ≠ 0 ∧ ∃ nm : String, (Cond.classLink own y.catchType nm).before args s = true ∧ va_Nc E nm s) (hz : covers z pc = true) (h0 : z.catchType ≠ 0)
    (hlink : (Cond.classLink own z.catchType name).before args s = true) (hcast : (Cond.castable E name).before args s = true) (hcell : H[q]? = some ce) (hv : ce.vm = .none) (hcl : s.vm.findClass E = some ce.cls)
    (kk : W p l e R s m args below meth c H locs cells slots Q (F0 m z.handlerPc ls [.ref q])) : vx_W p l e R s m args below meth c H locs cells slots Q (F0 m pc ls rest) q := by
  intro T hT X
  have hpl : e.platform.magicAccessors = ({} : Platform).magicAccessors := by rw [X.admits.platform]
  have ho : ∀ i, ce.vm ≠ .statics i := fun i hi => by rw [hv] at hi; cases hi
  have at1 : ∀ {n : String} {i : ClassId}, s.vm.findClass n = some i → ∃ r, s.vm.classes[i]? = some r := fun h => by
    obtain ⟨r, hr, -⟩ := Vm.findClass_spec h
    exact ⟨r, hr⟩
  obtain ⟨c3, c4, hc3, hc4, hasg⟩ := Cond.castable_spec hcast
  cases Option.some.inj (hc3.symm.trans hcl)
  obtain ⟨c5, hc5, hl5⟩ := Cond.classLink_spec hown hlink e.platform hpl
  cases Option.some.inj (hc4.symm.trans hc5)
  have hpass' : ∀ y ∈ pre, covers y (F0 m pc ls rest).pc = true ∧ y.catchType ≠ 0 ∧ ∃ j, s.vm.ClassLinks e.platform (F0 m pc ls rest).method.cls y.catchType j ∧ (∃ r, s.vm.classes[j]? = some r) ∧ s.vm.assignable ce.cls j = false := fun y hy => by
    obtain ⟨y1, y2, nm, hl1, a8, b8, h1, h2, h3⟩ := hpass y hy
    obtain ⟨c6, hc6, hl6⟩ := Cond.classLink_spec hown hl1 e.platform hpl
    cases Option.some.inj (h1.symm.trans hcl)
    cases Option.some.inj (h2.symm.trans hc6)
    exact ⟨y1, y2, _, hl6, at1 hc6, h3⟩
  have hme : ((T.setTop (F0 m pc ls rest)).pushFrame (.throwing q)).vm = T.vm := throwing_vm T _ q
  have hhe : ((T.setTop (F0 m pc ls rest)).pushFrame (.throwing q)).heap = T.heap := throwing_heap T _ q
  obtain ⟨v, hv9, hq9⟩ := cx_find (e := e) (s0 := s) (f := F0 m pc ls rest) (a := q) ho (at1 hcl) (suf := suf) hz h0 hl5 (at1 hc5) hasg pre hpass' ((T.setTop (F0 m pc ls rest)).pushFrame (.throwing q)) (by rw [hme]; exact X.warmed) (by rw [hhe, hT]; exact hcell)
  obtain ⟨t, a1, b1⟩ := kk (T.setVm v) hT (X.noted hv9)
  refine ⟨t, ?_, b1⟩
  have hAt : At T (F0 m pc ls rest).method c below := X.here
  obtain ⟨hgo, hw⟩ := hAt.throwing q
  refine Steps.head hgo hw ?_
  have hfd : ∀ (Q9 : Handler → Pre) (E9 : CtlPost) (d9 : Bool) (ac : List Action), wp (findHandler (F0 m pc ls rest) q) Q9 E9 e d9 ac ((T.setTop (F0 m pc ls rest)).pushFrame (.throwing q)) ↔ Q9 (.found z.handlerPc) d9 ac (((T.setTop (F0 m pc ls rest)).pushFrame (.throwing q)).setVm v) := fun Q9 E9 d9 ac => by
    rw [W.findHandler_eq (meth := meth) (code := c) (by rw [hme]; exact X.method') X.code, hs]
    exact hq9 Q9 E9 d9 ac
  rw [stepThread_throwing (frames_entered hAt.top _)]
  have hstep : ∀ r : List Frame, (stepThrowing e ((T.setTop (F0 m pc ls rest)).pushFrame (.throwing q)) q (.java (F0 m pc ls rest) :: r)).Is ((((T.setTop (F0 m pc ls rest)).pushFrame (.throwing q)).setVm v).setFrames (.java { F0 m pc ls rest with pc := z.handlerPc, stack := [.ref q] } :: r)) [] := fun r => by
    simp only [stepThrowing, searchFrame, vmDo]
    generalize hr : Sem.go _ e false [] _ = res
    obtain ⟨as, rfl, ha⟩ := Sem.eq_ok_of hr (a := Handler.found z.handlerPc) (s' := ((T.setTop (F0 m pc ls rest)).pushFrame (.throwing q)).setVm v) (acts' := []) (by simp [hfd _ _ _ _])
    exact ⟨rfl, ha⟩
  rw [(hstep _).1]
  obtain ⟨g0, hg0⟩ := Option.isSome_iff_exists.mp hAt.top
  obtain ⟨r, hr⟩ := State.topJava?_eq_some.mp hg0
  have hr' : (T.setVm v).frames = .java g0 :: r := hr
  rw [State.setTop_of_frames _ hr'] at a1
  rw [hr, List.tail_cons, State.pushFrame, State.setTop_of_frames _ hr]
  have e1 : ∀ (F G : List Frame) (u : State), ((u.setFrames F).setVm v).setFrames G = (u.setVm v).setFrames G := fun F G u => by
    have h1 : (u.setFrames F).setVm v = (u.setVm v).setFrames F := rfl
    rw [h1, State.setFrames_setFrames]
  rw [e1, e1]
  exact a1
end CX
end
section
/-! ===== Int32 by its bits: bt x i ===== -/
def bt (x : Int32) (i : Nat) : Bool := x.toBitVec.getLsbD i
theorem b_ext {x y : Int32} (h : ∀ i, i < 32 → bt x i = bt y i) : x = y := Int32.toBitVec_inj.mp (BitVec.eq_of_getLsbD_eq (fun i hi => h i hi))
theorem b_or (x y : Int32) (i : Nat) : bt (x ||| y) i = (bt x i || bt y i) := by unfold bt; rw [Int32.toBitVec_or, BitVec.getLsbD_or]
theorem b_and (x y : Int32) (i : Nat) : bt (x &&& y) i = (bt x i && bt y i) := by unfold bt; rw [Int32.toBitVec_and, BitVec.getLsbD_and]
theorem b_xor (x y : Int32) (i : Nat) : bt (x ^^^ y) i = (bt x i ^^ bt y i) := by unfold bt; rw [Int32.toBitVec_xor, BitVec.getLsbD_xor]
theorem b_big {x : Int32} {i : Nat} (h : 32 ≤ i) : bt x i = false := BitVec.getLsbD_of_ge _ _ h
theorem b_255 (i : Nat) : bt 255 i = decide (i < 8) := by
  rcases Nat.lt_or_ge i 32 with h | h
  · exact (by decide +kernel : ∀ i, i < 32 → bt 255 i = decide (i < 8)) i h
  · rw [b_big h, decide_eq_false (by omega)]
theorem b_65535 (i : Nat) : bt 65535 i = decide (i < 16) := by
  rcases Nat.lt_or_ge i 32 with h | h
  · exact (by decide +kernel : ∀ i, i < 32 → bt 65535 i = decide (i < 16)) i h
  · rw [b_big h, decide_eq_false (by omega)]
theorem b_m1 : ∀ i, i < 32 → bt (-1) i = true := by decide +kernel
theorem b_0 (i : Nat) : bt 0 i = false := BitVec.getLsbD_zero
theorem s_l : ∀ n, n < 32 → ((nI n &&& 31).toBitVec.smod 32).toNat = n := by decide +kernel
theorem s_u : ∀ n, n < 32 → (((nI n).toUInt32 &&& Int32.toUInt32 31).toBitVec % 32).toNat = n := by decide +kernel
theorem b_shl (n : Nat) (hn : n < 32) (x : Int32) {i : Nat} (hi : i < 32) : bt (x <<< (nI n &&& 31)) i = (decide (n ≤ i) && bt x (i - n)) := by
  unfold bt
  rw [Int32.toBitVec_shiftLeft]
  show (x.toBitVec <<< ((nI n &&& 31).toBitVec.smod 32).toNat).getLsbD i = _
  rw [s_l n hn, BitVec.getLsbD_shiftLeft]
  rcases Nat.lt_or_ge i n with h | h
  · simp [h, Nat.not_le.mpr h]
  · simp [hi, h, Nat.not_lt.mpr h]
theorem b_ushr (n : Nat) (hn : n < 32) (x : Int32) (i : Nat) : bt ((x.toUInt32 >>> ((nI n).toUInt32 &&& Int32.toUInt32 31)).toInt32) i = bt x (n + i) := by
  show (x.toUInt32 >>> ((nI n).toUInt32 &&& Int32.toUInt32 31)).toBitVec.getLsbD i = x.toUInt32.toBitVec.getLsbD (n + i)
  rw [UInt32.toBitVec_shiftRight]
  show (x.toUInt32.toBitVec >>> (((nI n).toUInt32 &&& Int32.toUInt32 31).toBitVec % 32).toNat).getLsbD i = _
  rw [s_u n hn, BitVec.getLsbD_ushiftRight]
theorem b_sshr (n : Nat) (hn : n < 32) (x : Int32) {i : Nat} (hi : i < 32) : bt (x >>> (nI n &&& 31)) i = if n + i < 32 then bt x (n + i) else bt x 31 := by
  unfold bt
  rw [Int32.toBitVec_shiftRight]
  show (x.toBitVec.sshiftRight ((nI n &&& 31).toBitVec.smod 32).toNat).getLsbD i = _
  rw [s_l n hn, BitVec.getLsbD_sshiftRight, BitVec.msb_eq_getLsbD_last]
  simp [hi]
theorem b_shl8 (x : Int32) {i : Nat} (hi : i < 32) : bt (x <<< ((8 : Int32) &&& 31)) i = (decide (8 ≤ i) && bt x (i - 8)) := b_shl 8 (by omega) x hi
theorem b_shl16 (x : Int32) {i : Nat} (hi : i < 32) : bt (x <<< ((16 : Int32) &&& 31)) i = (decide (16 ≤ i) && bt x (i - 16)) := b_shl 16 (by omega) x hi
theorem b_shl24 (x : Int32) {i : Nat} (hi : i < 32) : bt (x <<< ((24 : Int32) &&& 31)) i = (decide (24 ≤ i) && bt x (i - 24)) := b_shl 24 (by omega) x hi
theorem b_sshr8 (x : Int32) {i : Nat} (hi : i < 32) : bt (x >>> ((8 : Int32) &&& 31)) i = if 8 + i < 32 then bt x (8 + i) else bt x 31 := b_sshr 8 (by omega) x hi
end
section
/-! the mathematics: counts, one level's road down, nine levels -/
/-- how many i below n have p i -/
def cn (p : Nat → Bool) : Nat → Nat
  | 0 => 0
  | n + 1 => cn p n + (if p n = true then 1 else 0)
theorem cn_0 (p : Nat → Bool) : cn p 0 = 0 := rfl
theorem cn_s (p : Nat → Bool) (n : Nat) : cn p (n + 1) = cn p n + (if p n = true then 1 else 0) := rfl
theorem cn_t {p : Nat → Bool} {n : Nat} (h : p n = true) : cn p (n + 1) = cn p n + 1 := by rw [cn_s, if_pos h]
theorem cn_f {p : Nat → Bool} {n : Nat} (h : p n = false) : cn p (n + 1) = cn p n := by rw [cn_s, if_neg (by rw [h]; decide)]; rfl
theorem cn_le (p : Nat → Bool) (n : Nat) : cn p n ≤ n := by
  induction n with
  | zero => exact Nat.le_refl 0
  | succ n ih => rw [cn_s]; split <;> omega
theorem cn_step (p : Nat → Bool) (a d : Nat) : cn p a ≤ cn p (a + d) ∧ cn p (a + d) ≤ cn p a + d := by
  induction d with
  | zero => exact ⟨Nat.le_refl _, Nat.le_refl _⟩
  | succ d ih => rw [← Nat.add_assoc, cn_s]; split <;> omega
theorem cn_mono (p : Nat → Bool) {a b : Nat} (h : a ≤ b) : cn p a ≤ cn p b := by
  have := (cn_step p a (b - a)).1
  rwa [Nat.add_sub_cancel' h] at this
theorem cn_gap (p : Nat → Bool) {a b : Nat} (h : a ≤ b) : cn p b ≤ cn p a + (b - a) := by
  have := (cn_step p a (b - a)).2
  rwa [Nat.add_sub_cancel' h] at this
theorem cn_congr {p q : Nat → Bool} {n : Nat} (h : ∀ i, i < n → p i = q i) : cn p n = cn q n := by
  induction n with
  | zero => rfl
  | succ n ih => rw [cn_s, cn_s, ih (fun i hi => h i (by omega)), h n (by omega)]
theorem cn_all {p : Nat → Bool} {n : Nat} (h : ∀ i, i < n → p i = true) : cn p n = n := by
  induction n with
  | zero => rfl
  | succ n ih => rw [cn_t (h n (by omega)), ih (fun i hi => h i (by omega))]
theorem cn_none {p : Nat → Bool} {n : Nat} (h : ∀ i, i < n → p i = false) : cn p n = 0 := by
  induction n with
  | zero => rfl
  | succ n ih => rw [cn_f (h n (by omega)), ih (fun i hi => h i (by omega))]
theorem cn_shift (p : Nat → Bool) (a n : Nat) : cn p (a + n) = cn p a + cn (fun i => p (a + i)) n := by
  induction n with
  | zero => rfl
  | succ n ih => rw [← Nat.add_assoc, cn_s, cn_s, ih]; omega
/-- two that never hold together -/
theorem cn_or {p q r : Nat → Bool} {n : Nat} (h : ∀ i, i < n → r i = (p i || q i) ∧ (p i && q i) = false) : cn r n = cn p n + cn q n := by
  induction n with
  | zero => rfl
  | succ n ih =>
    obtain ⟨h1, h2⟩ := h n (by omega)
    rw [cn_s, cn_s, cn_s, ih (fun i hi => h i (by omega)), h1]
    cases hp : p n <;> cases hq : q n <;> simp [hp, hq] at h2 ⊢ <;> omega
theorem cn_imp {p q : Nat → Bool} {n : Nat} (h : ∀ i, i < n → p i = true → q i = true) : cn p n ≤ cn q n := by
  induction n with
  | zero => exact Nat.le_refl 0
  | succ n ih =>
    have := ih (fun i hi => h i (by omega))
    have h1 := h n (by omega)
    rw [cn_s, cn_s]
    cases hp : p n <;> cases hq : q n <;> simp_all <;> omega
theorem cn_pos {p : Nat → Bool} {n i : Nat} (hi : i < n) (h : p i = true) : 0 < cn p n := by
  have h1 := cn_mono p (show i + 1 ≤ n by omega)
  rw [cn_t h] at h1
  omega
theorem cn_ex {p : Nat → Bool} {n : Nat} (h : 0 < cn p n) : ∃ i, i < n ∧ p i = true := by
  induction n with
  | zero => exact absurd h (by rw [cn_0]; omega)
  | succ n ih =>
    by_cases hp : p n = true
    · exact ⟨n, by omega, hp⟩
    · rw [cn_f (by simpa using hp)] at h
      obtain ⟨i, hi, hpi⟩ := ih h
      exact ⟨i, by omega, hpi⟩
/-- the k-th place that has p -/
theorem cn_kth {p : Nat → Bool} {n k : Nat} (h : k < cn p n) : ∃ i, i < n ∧ p i = true ∧ cn p i = k := by
  induction n with
  | zero => exact absurd h (by rw [cn_0]; omega)
  | succ n ih =>
    by_cases hp : p n = true
    · rw [cn_t hp] at h
      by_cases hk : k < cn p n
      · obtain ⟨i, hi, h1, h2⟩ := ih hk
        exact ⟨i, by omega, h1, h2⟩
      · exact ⟨n, by omega, hp, by omega⟩
    · rw [cn_f (by simpa using hp)] at h
      obtain ⟨i, hi, h1, h2⟩ := ih h
      exact ⟨i, by omega, h1, h2⟩
theorem cn_kth1 {p : Nat → Bool} {i j : Nat} (hi : p i = true) (hj : p j = true) (h : cn p i = cn p j) : i = j := by
  rcases Nat.lt_trichotomy i j with q | q | q
  · have := cn_mono p (show i + 1 ≤ j by omega); rw [cn_t hi] at this; omega
  · exact q
  · have := cn_mono p (show j + 1 ≤ i by omega); rw [cn_t hj] at this; omega
/-- how many of the part u .. v have p -/
def ct (p : Nat → Bool) (u v : Nat) : Nat := cn p v - cn p u
theorem ct_le (p : Nat → Bool) {u v : Nat} (h : u ≤ v) : ct p u v ≤ v - u := by
  have := cn_gap p h
  unfold ct; omega
theorem ct_0 (p : Nat → Bool) (u : Nat) : ct p u u = 0 := Nat.sub_self _
theorem ct_s (p : Nat → Bool) {u v : Nat} (h : u ≤ v) : ct p u (v + 1) = ct p u v + (if p v = true then 1 else 0) := by
  have := cn_mono p h
  unfold ct; rw [cn_s]; split <;> omega
theorem ct_congr {p q : Nat → Bool} {u v : Nat} (huv : u ≤ v) (h : ∀ i, i < v → p i = q i) : ct p u v = ct q u v := by
  unfold ct; rw [cn_congr h, cn_congr (fun i hi => h i (by omega))]
theorem ct_or {p q r : Nat → Bool} {u v : Nat} (huv : u ≤ v) (h : ∀ i, i < v → r i = (p i || q i) ∧ (p i && q i) = false) : ct r u v = ct p u v + ct q u v := by
  have h1 := cn_mono p huv
  have h2 := cn_mono q huv
  unfold ct; rw [cn_or h, cn_or (fun i hi => h i (by omega))]; omega
theorem ct_all {p : Nat → Bool} {u v : Nat} (huv : u ≤ v) (h : ∀ i, i < v → p i = true) : ct p u v = v - u := by
  unfold ct; rw [cn_all h, cn_all (fun i hi => h i (by omega))]
theorem ct_none {p : Nat → Bool} {u v : Nat} (huv : u ≤ v) (h : ∀ i, i < v → p i = false) : ct p u v = 0 := by
  unfold ct; rw [cn_none h, cn_none (fun i hi => h i (by omega))]
theorem ct_eq (p : Nat → Bool) {u v : Nat} (h : u ≤ v) : cn p u + ct p u v = cn p v := by
  have := cn_mono p h
  unfold ct; omega
/-- a level with bits bb, of length n: where the place j comes to below if its bit is x -/
def dn (bb : Nat → Bool) (n : Nat) (x : Bool) (j : Nat) : Nat := if x = true then (n - cn bb n) + cn bb j else j - cn bb j
theorem dn_s (bb : Nat → Bool) (n : Nat) (x : Bool) (j : Nat) : dn bb n x (j + 1) = dn bb n x j + (if (bb j == x) = true then 1 else 0) := by
  have h1 := cn_le bb j
  unfold dn; rw [cn_s]
  cases x <;> cases hb : bb j <;> simp <;> omega
theorem dn_le (bb : Nat → Bool) {n : Nat} (x : Bool) {j : Nat} (h : j ≤ n) : dn bb n x j ≤ n := by
  have h1 := cn_le bb n
  have h2 := cn_mono bb h
  have h3 := cn_le bb j
  unfold dn; split <;> omega
theorem dn_mono (bb : Nat → Bool) (n : Nat) (x : Bool) {i j : Nat} (h : i ≤ j) : dn bb n x i ≤ dn bb n x j := by
  induction j with
  | zero => rw [Nat.le_zero.mp h]; exact Nat.le_refl _
  | succ j ih =>
    rw [dn_s]
    rcases Nat.lt_or_ge i (j + 1) with q | q
    · have := ih (by omega); omega
    · rw [show i = j + 1 by omega, dn_s]; exact Nat.le_refl _
theorem dn_0 (bb : Nat → Bool) (n j : Nat) : dn bb n false j = j - cn bb j := rfl
theorem dn_1 (bb : Nat → Bool) (n j : Nat) : dn bb n true j = (n - cn bb n) + cn bb j := rfl
/-- the order below is the order above, zeros in front -/
def PT (o o' : Nat → Nat) (bb : Nat → Bool) (n : Nat) : Prop := ∀ j, j < n → o' (dn bb n (bb j) j) = o j
theorem pt_cn {o o' : Nat → Nat} {bb : Nat → Bool} {n : Nat} (hp : PT o o' bb n) (x : Bool) (P : Nat → Bool) : ∀ v, v ≤ n → cn (fun i => P (o' i)) (dn bb n x v) = cn (fun i => P (o' i)) (dn bb n x 0) + cn (fun j => (bb j == x) && P (o j)) v := by
  intro v
  induction v with
  | zero => intro _; rfl
  | succ v ih =>
    intro hv
    have h1 := ih (by omega)
    rw [dn_s, cn_s]
    by_cases hb : (bb v == x) = true
    · have hx : x = bb v := (beq_iff_eq.mp hb).symm
      have h2 : o' (dn bb n x v) = o v := by rw [hx]; exact hp v (by omega)
      rw [if_pos hb, cn_s, h1, h2, hb, Bool.true_and]; omega
    · rw [if_neg hb, Nat.add_zero, h1, show (bb v == x) = false by simpa using hb]; simp
/-- bit s of x -/
def tb (x s : Nat) : Bool := decide (x / 2 ^ s % 2 = 1)
/-- the upper d of nine bits -/
def tp (d v : Nat) : Nat := v / 2 ^ (9 - d)
theorem tp_s {d : Nat} (hd : d < 9) (v : Nat) : tp (d + 1) v = 2 * tp d v + (if tb v (8 - d) = true then 1 else 0) := by
  unfold tp tb
  rw [show 9 - (d + 1) = 8 - d by omega, show 9 - d = (8 - d) + 1 by omega, Nat.pow_succ, ← Nat.div_div_eq_div_mul]
  generalize v / 2 ^ (8 - d) = q
  rcases Nat.mod_two_eq_zero_or_one q with h | h <;> simp [h] <;> omega
theorem tp_0 {v : Nat} (h : v < 512) : tp 0 v = 0 := Nat.div_eq_of_lt h
theorem tp_9 (v : Nat) : tp 9 v = v := Nat.div_one v
/-- the bits of level d -/
def bs (os : Nat → Nat → Nat) (n d : Nat) : Nat → Bool := fun j => decide (j < n) && tb (os d j) (8 - d)
/-- the nine levels are of the row f, n long -/
def WM (f : Nat → Nat) (n : Nat) (os : Nat → Nat → Nat) : Prop := (∀ i, i < n → os 0 i = f i) ∧ ∀ d, d < 9 → PT (os d) (os (d + 1)) (bs os n d) n
/-- where the place p of the first level comes to at depth d, along the upper bits y -/
def pq (os : Nat → Nat → Nat) (n : Nat) : Nat → Nat → Nat → Nat
  | 0, _, p => p
  | d + 1, y, p => dn (bs os n d) n (decide (y % 2 = 1)) (pq os n d (y / 2) p)
theorem pq_0 (os : Nat → Nat → Nat) (n y p : Nat) : pq os n 0 y p = p := rfl
theorem pq_s (os : Nat → Nat → Nat) (n d y p : Nat) (x : Bool) : pq os n (d + 1) (2 * y + (if x = true then 1 else 0)) p = dn (bs os n d) n x (pq os n d y p) := by
  cases x
  · show dn _ n (decide ((2 * y + 0) % 2 = 1)) (pq os n d ((2 * y + 0) / 2) p) = _
    rw [show (2 * y + 0) / 2 = y by omega, show decide ((2 * y + 0) % 2 = 1) = false by simp]
  · show dn _ n (decide ((2 * y + 1) % 2 = 1)) (pq os n d ((2 * y + 1) / 2) p) = _
    rw [show (2 * y + 1) / 2 = y by omega, show decide ((2 * y + 1) % 2 = 1) = true by simp]
theorem pq_le (os : Nat → Nat → Nat) {n : Nat} (d y : Nat) {p : Nat} (h : p ≤ n) : pq os n d y p ≤ n := by
  induction d generalizing y with
  | zero => exact h
  | succ d ih => exact dn_le _ _ (ih _)
theorem pq_mono (os : Nat → Nat → Nat) (n d y : Nat) {p q : Nat} (h : p ≤ q) : pq os n d y p ≤ pq os n d y q := by
  induction d generalizing y with
  | zero => exact h
  | succ d ih => exact dn_mono _ _ _ (ih _)
theorem pq_cn {f : Nat → Nat} {n : Nat} {os : Nat → Nat → Nat} (hw : WM f n os) (hf : ∀ i, i < n → f i < 512) : ∀ (d : Nat), d ≤ 9 → ∀ (y : Nat), y < 2 ^ d → ∀ (P : Nat → Bool) (v : Nat), v ≤ n → cn (fun j => P (os d j)) (pq os n d y v) = cn (fun j => P (os d j)) (pq os n d y 0) + cn (fun i => decide (tp d (f i) = y) && P (f i)) v := by
  intro d
  induction d with
  | zero =>
    intro _ y hy P v hv
    rw [pq_0, pq_0, cn_0, Nat.zero_add]
    exact cn_congr (fun i hi => by rw [hw.1 i (by omega), tp_0 (hf i (by omega)), show y = 0 by simpa using hy]; simp)
  | succ d ih =>
    intro hd y hy P v hv
    have hy2 : y / 2 < 2 ^ d := by rw [Nat.pow_succ] at hy; omega
    generalize hx : decide (y % 2 = 1) = x
    have hyx : y = 2 * (y / 2) + (if x = true then 1 else 0) := by
      rw [← hx]
      rcases Nat.mod_two_eq_zero_or_one y with h | h <;> simp [h] <;> omega
    have e0 : ∀ w, w ≤ n → cn (fun j => P (os (d + 1) j)) (pq os n (d + 1) y w) = cn (fun j => P (os (d + 1) j)) (dn (bs os n d) n x 0) + cn (fun j => (tb (os d j) (8 - d) == x) && P (os d j)) (pq os n d (y / 2) w) := by
      intro w hw9
      have h1 := pt_cn (hw.2 d (by omega)) x P (pq os n d (y / 2) w) (pq_le os d _ hw9)
      have h2 : pq os n (d + 1) y w = dn (bs os n d) n x (pq os n d (y / 2) w) := by rw [← hx]; rfl
      rw [h2, h1]
      congr 1
      have h3 := pq_le os d (y / 2) hw9
      exact cn_congr (fun j hj => by unfold bs; rw [show decide (j < n) = true from decide_eq_true (by omega), Bool.true_and])
    have h4 := ih (by omega) (y / 2) hy2 (fun z => (tb z (8 - d) == x) && P z) v hv
    have h5 := ih (by omega) (y / 2) hy2 (fun z => (tb z (8 - d) == x) && P z) 0 (Nat.zero_le _)
    rw [e0 v hv, e0 0 (Nat.zero_le _), h4]
    have h6 : cn (fun i => decide (tp d (f i) = y / 2) && ((tb (f i) (8 - d) == x) && P (f i))) v = cn (fun i => decide (tp (d + 1) (f i) = y) && P (f i)) v := by
      refine cn_congr (fun i hi => ?_)
      rw [← Bool.and_assoc]
      congr 1
      rw [tp_s (by omega)]
      rw [show decide (2 * tp d (f i) + (if tb (f i) (8 - d) = true then 1 else 0) = y) = decide (2 * tp d (f i) + (if tb (f i) (8 - d) = true then 1 else 0) = 2 * (y / 2) + (if x = true then 1 else 0)) by rw [← hyx]]
      cases tb (f i) (8 - d) <;> cases x <;> simp <;> omega
    rw [h6]; omega
theorem pq_len {f : Nat → Nat} {n : Nat} {os : Nat → Nat → Nat} (hw : WM f n os) (hf : ∀ i, i < n → f i < 512) {d : Nat} (hd : d ≤ 9) {y : Nat} (hy : y < 2 ^ d) {v : Nat} (hv : v ≤ n) : pq os n d y v = pq os n d y 0 + cn (fun i => decide (tp d (f i) = y)) v := by
  have h := pq_cn hw hf d hd y hy (fun _ => true) v hv
  rw [cn_all (fun _ _ => rfl), cn_all (fun _ _ => rfl)] at h
  rw [h]; congr 1
  exact cn_congr (fun i _ => by simp)
theorem pq_at {f : Nat → Nat} {n : Nat} {os : Nat → Nat → Nat} (hw : WM f n os) (hf : ∀ i, i < n → f i < 512) {d : Nat} (hd : d ≤ 9) {i : Nat} (hi : i < n) : os d (pq os n d (tp d (f i)) i) = f i := by
  have hy : tp d (f i) < 2 ^ d := by
    have := hf i hi
    unfold tp
    rw [Nat.div_lt_iff_lt_mul (Nat.two_pow_pos _), ← Nat.pow_add, show d + (9 - d) = 9 by omega]
    exact this
  have h1 := pq_cn hw hf d hd _ hy (fun z => decide (z = f i)) i (by omega)
  have h2 := pq_cn hw hf d hd _ hy (fun z => decide (z = f i)) (i + 1) (by omega)
  have h3 := pq_len hw hf hd hy (v := i) (by omega)
  have h4 := pq_len hw hf hd hy (v := i + 1) (by omega)
  rw [cn_t (by simp)] at h2 h4
  rw [show pq os n d (tp d (f i)) (i + 1) = pq os n d (tp d (f i)) i + 1 by omega, cn_s] at h2
  by_cases hx : decide (os d (pq os n d (tp d (f i)) i) = f i) = true
  · exact of_decide_eq_true hx
  · rw [if_neg hx] at h2; omega
end
section
/-! what the questions ask of a part, and how the nine levels answer -/
def lq (f : Nat → Nat) (y u v : Nat) : Nat := ct (fun i => decide (f i < y)) u v
def eq (f : Nat → Nat) (y u v : Nat) : Nat := ct (fun i => decide (f i = y)) u v
theorem lq_0 (f : Nat → Nat) {u v : Nat} (h : u ≤ v) : lq f 0 u v = 0 := ct_none h (fun i _ => by simp)
theorem lq_s (f : Nat → Nat) (y : Nat) {u v : Nat} (h : u ≤ v) : lq f (y + 1) u v = lq f y u v + eq f y u v :=
  ct_or h (fun i _ => by
    constructor
    · rcases Nat.lt_trichotomy (f i) y with q | q | q
      · simp [q, show f i < y + 1 by omega]
      · simp [q]
      · simp [show ¬ f i < y by omega, show ¬ f i = y by omega, show ¬ f i < y + 1 by omega]
    · rcases Nat.lt_trichotomy (f i) y with q | q | q
      · simp [show ¬ f i = y by omega]
      · simp [q]
      · simp [show ¬ f i < y by omega])
theorem lq_512 {f : Nat → Nat} {u v n : Nat} (hf : ∀ i, i < n → f i < 512) (h : u ≤ v) (hv : v ≤ n) : lq f 512 u v = v - u := ct_all h (fun i hi => decide_eq_true (hf i (by omega)))
theorem lq_mono (f : Nat → Nat) {x y u v : Nat} (h : u ≤ v) (hxy : x ≤ y) : lq f x u v ≤ lq f y u v := by
  induction y with
  | zero => rw [Nat.le_zero.mp hxy]; exact Nat.le_refl _
  | succ y ih =>
    rcases Nat.lt_or_ge x (y + 1) with q | q
    · have := ih (by omega); rw [lq_s f y h]; omega
    · rw [show x = y + 1 by omega]; exact Nat.le_refl _
theorem lq_le (f : Nat → Nat) (y : Nat) {u v : Nat} (h : u ≤ v) : lq f y u v ≤ v - u := ct_le _ h
theorem eq_le (f : Nat → Nat) (y : Nat) {u v : Nat} (h : u ≤ v) : eq f y u v ≤ v - u := ct_le _ h
theorem eq_ex {f : Nat → Nat} {y u v : Nat} (h : 0 < eq f y u v) : ∃ i, u ≤ i ∧ i < v ∧ f i = y := by
  unfold eq ct at h
  rcases Nat.lt_or_ge u v with huv | huv
  · have h1 := cn_shift (fun i => decide (f i = y)) u (v - u)
    rw [show u + (v - u) = v by omega] at h1
    obtain ⟨i, hi, hp⟩ := cn_ex (p := fun i => decide (f (u + i) = y)) (n := v - u) (by omega)
    exact ⟨u + i, by omega, by omega, of_decide_eq_true hp⟩
  · have := cn_mono (fun i => decide (f i = y)) huv
    omega
theorem eq_in {f : Nat → Nat} {y u v i : Nat} (h1 : u ≤ i) (h2 : i < v) (h : f i = y) : 0 < eq f y u v := by
  have a := cn_mono (fun i => decide (f i = y)) h1
  have b := cn_mono (fun i => decide (f i = y)) (show i + 1 ≤ v by omega)
  rw [cn_t (by simp [h])] at b
  unfold eq ct; omega
/-- y is the k-th least of the part -/
def KT (f : Nat → Nat) (u v k y : Nat) : Prop := lq f y u v ≤ k ∧ k < lq f y u v + eq f y u v
theorem KT.one {f : Nat → Nat} {u v k y z : Nat} (h : u ≤ v) (hy : KT f u v k y) (hz : KT f u v k z) : y = z := by
  obtain ⟨a1, a2⟩ := hy
  obtain ⟨b1, b2⟩ := hz
  rw [← lq_s f _ h] at a2 b2
  rcases Nat.lt_trichotomy y z with q | q | q
  · have := lq_mono f h (show y + 1 ≤ z by omega); omega
  · exact q
  · have := lq_mono f h (show z + 1 ≤ y by omega); omega
theorem KT.lt {f : Nat → Nat} {u v k y n : Nat} (hf : ∀ i, i < n → f i < 512) (hv : v ≤ n) (h : KT f u v k y) : y < 512 := by
  obtain ⟨i, h1, h2, h3⟩ := eq_ex (f := f) (y := y) (u := u) (v := v) (by have := h.1; have := h.2; omega)
  rw [← h3]; exact hf i (by omega)
section Levels
variable {f : Nat → Nat} {n : Nat} {os : Nat → Nat → Nat}
theorem pq_ct (hw : WM f n os) (hf : ∀ i, i < n → f i < 512) {d : Nat} (hd : d ≤ 9) {y : Nat} (hy : y < 2 ^ d) {u v : Nat} (huv : u ≤ v) (hv : v ≤ n) : pq os n d y v - pq os n d y u = ct (fun i => decide (tp d (f i) = y)) u v := by
  have h1 := pq_len hw hf hd hy hv
  have h2 := pq_len hw hf hd hy (v := u) (by omega)
  have h3 := cn_mono (fun i => decide (tp d (f i) = y)) huv
  unfold ct; omega
/-- the k-th least has the upper bits y at depth d -/
def GK (f : Nat → Nat) (u v k d y : Nat) : Prop := ct (fun i => decide (tp d (f i) < y)) u v ≤ k ∧ k < ct (fun i => decide (tp d (f i) < y)) u v + ct (fun i => decide (tp d (f i) = y)) u v
theorem gk_lt0 {d : Nat} (hd : d < 9) (y : Nat) {u v : Nat} (h : u ≤ v) : ct (fun i => decide (tp (d + 1) (f i) < 2 * y)) u v = ct (fun i => decide (tp d (f i) < y)) u v :=
  ct_congr h (fun i _ => by rw [tp_s hd]; apply decide_eq_decide.mpr; split <;> omega)
theorem gk_lt1 {d : Nat} (hd : d < 9) (y : Nat) {u v : Nat} (h : u ≤ v) : ct (fun i => decide (tp (d + 1) (f i) < 2 * y + 1)) u v = ct (fun i => decide (tp d (f i) < y)) u v + ct (fun i => decide (tp (d + 1) (f i) = 2 * y)) u v :=
  ct_or h (fun i _ => by
    rw [tp_s hd]
    generalize tp d (f i) = t
    obtain ⟨z, hz, h01⟩ : ∃ z : Nat, (if tb (f i) (8 - d) = true then 1 else 0) = z ∧ z ≤ 1 := ⟨_, rfl, by split <;> omega⟩
    rw [hz]
    constructor
    · rw [Bool.eq_iff_iff, Bool.or_eq_true, decide_eq_true_eq, decide_eq_true_eq, decide_eq_true_eq]; omega
    · rw [← Bool.not_eq_true, Bool.and_eq_true, decide_eq_true_eq, decide_eq_true_eq]; omega)
theorem gk_sp {d : Nat} (hd : d < 9) (y : Nat) {u v : Nat} (h : u ≤ v) : ct (fun i => decide (tp d (f i) = y)) u v = ct (fun i => decide (tp (d + 1) (f i) = 2 * y)) u v + ct (fun i => decide (tp (d + 1) (f i) = 2 * y + 1)) u v :=
  ct_or h (fun i _ => by
    rw [tp_s hd]
    generalize tp d (f i) = t
    obtain ⟨z, hz, h01⟩ : ∃ z : Nat, (if tb (f i) (8 - d) = true then 1 else 0) = z ∧ z ≤ 1 := ⟨_, rfl, by split <;> omega⟩
    rw [hz]
    constructor
    · rw [Bool.eq_iff_iff, Bool.or_eq_true, decide_eq_true_eq, decide_eq_true_eq, decide_eq_true_eq]; omega
    · rw [← Bool.not_eq_true, Bool.and_eq_true, decide_eq_true_eq, decide_eq_true_eq]; omega)
theorem gk_0 (hf : ∀ i, i < n → f i < 512) {u v k : Nat} (h : u ≤ v) (hv : v ≤ n) (hk : k < v - u) : GK f u v k 0 0 := by
  have h1 : ct (fun i => decide (tp 0 (f i) < 0)) u v = 0 := ct_none h (fun i _ => by simp)
  have h2 : ct (fun i => decide (tp 0 (f i) = 0)) u v = v - u := ct_all h (fun i hi => decide_eq_true (tp_0 (hf i (by omega))))
  unfold GK; omega
theorem gk_z {u v k d y : Nat} (hd : d < 9) (h : u ≤ v) (g : GK f u v k d y) (hz : k - ct (fun i => decide (tp d (f i) < y)) u v < ct (fun i => decide (tp (d + 1) (f i) = 2 * y)) u v) : GK f u v k (d + 1) (2 * y) := by
  unfold GK at g ⊢; rw [gk_lt0 hd y h]; omega
theorem gk_o {u v k d y : Nat} (hd : d < 9) (h : u ≤ v) (g : GK f u v k d y) (hz : ct (fun i => decide (tp (d + 1) (f i) = 2 * y)) u v ≤ k - ct (fun i => decide (tp d (f i) < y)) u v) : GK f u v k (d + 1) (2 * y + 1) := by
  have := gk_sp (f := f) hd y h
  unfold GK at g ⊢; rw [gk_lt1 hd y h]; omega
theorem gk_9 {u v k y : Nat} (g : GK f u v k 9 y) : KT f u v k y := by
  unfold GK at g; simp only [tp_9] at g; exact g
theorem pq_9 (hw : WM f n os) (hf : ∀ i, i < n → f i < 512) {y : Nat} (hy : y < 512) {u v : Nat} (huv : u ≤ v) (hv : v ≤ n) : pq os n 9 y v - pq os n 9 y u = eq f y u v := by
  have h := pq_ct hw hf (d := 9) (Nat.le_refl 9) (y := y) hy huv hv
  simp only [tp_9] at h
  exact h
/-- how many are below x, by the upper d bits -/
def bl (f : Nat → Nat) (x u v d : Nat) : Nat := ct (fun i => decide (tp d (f i) < tp d x)) u v
theorem bl_0 (hf : ∀ i, i < n → f i < 512) {x u v : Nat} (hx : x < 512) (h : u ≤ v) (hv : v ≤ n) : bl f x u v 0 = 0 :=
  ct_none h (fun i hi => by rw [tp_0 hx]; simp)
theorem bl_9 (x u v : Nat) : bl f x u v 9 = lq f x u v := by unfold bl lq; simp only [tp_9]
theorem bl_z {x u v d : Nat} (hd : d < 9) (h : u ≤ v) (hb : tb x (8 - d) = false) : bl f x u v (d + 1) = bl f x u v d := by
  unfold bl; rw [tp_s hd x, hb, if_neg (by decide), Nat.add_zero]; exact gk_lt0 hd _ h
theorem bl_o {x u v d : Nat} (hd : d < 9) (h : u ≤ v) (hb : tb x (8 - d) = true) : bl f x u v (d + 1) = bl f x u v d + ct (fun i => decide (tp (d + 1) (f i) = 2 * tp d x)) u v := by
  unfold bl; rw [tp_s hd x, hb, if_pos rfl]; exact gk_lt1 hd _ h
theorem bl_le {x u v d : Nat} (h : u ≤ v) : bl f x u v d ≤ v - u := ct_le _ h
theorem tp_lt {d v : Nat} (hd : d ≤ 9) (hv : v < 512) : tp d v < 2 ^ d := by
  unfold tp
  rw [Nat.div_lt_iff_lt_mul (Nat.two_pow_pos _), ← Nat.pow_add, show d + (9 - d) = 9 by omega]
  exact hv
theorem pq_x {x d p : Nat} (hd : d < 9) : pq os n (d + 1) (tp (d + 1) x) p = dn (bs os n d) n (tb x (8 - d)) (pq os n d (tp d x) p) := by
  rw [tp_s hd]; exact pq_s os n d _ p _
/-- the bit that the k-th level has where the place i comes to -/
theorem bs_at (hw : WM f n os) (hf : ∀ i, i < n → f i < 512) {d : Nat} (hd : d ≤ 9) {i : Nat} (hi : i < n) : pq os n d (tp d (f i)) i < n ∧ bs os n d (pq os n d (tp d (f i)) i) = tb (f i) (8 - d) := by
  have h1 := pq_at hw hf hd hi
  have h2 : pq os n d (tp d (f i)) i < n := by
    have a := pq_len hw hf hd (tp_lt hd (hf i hi)) (v := i) (by omega)
    have b := pq_len hw hf hd (tp_lt hd (hf i hi)) (v := i + 1) (by omega)
    have c := pq_le os d (tp d (f i)) (show i + 1 ≤ n by omega)
    rw [cn_t (by simp)] at b
    omega
  exact ⟨h2, by unfold bs; rw [h1, decide_eq_true h2, Bool.true_and]⟩
end Levels
/-- the binary search upward: the last place that comes no further -/
theorem up_last {bb : Nat → Bool} {n : Nat} {x : Bool} {j q : Nat} (hj : bb j = x) (h1 : dn bb n x q ≤ dn bb n x j) (h2 : ∀ r, q < r → r < n → dn bb n x j < dn bb n x r) (hjn : j < n) : q = j := by
  rcases Nat.lt_trichotomy q j with c | c | c
  · have := h2 j c hjn; omega
  · exact c
  · have a := dn_mono bb n x (show j + 1 ≤ q by omega)
    rw [dn_s, hj, if_pos (by simp)] at a
    omega
end
section
/-! bitCount: the sum by bytes -/
theorem an_sp (a c : Nat) {b d : Nat} (hb : b < 256) (hd : d < 256) : (a * 256 + b) &&& (c * 256 + d) = (a &&& c) * 256 + (b &&& d) := by
  have e : ∀ x y : Nat, x * 256 + y = 2 ^ 8 * x + y := fun x y => by rw [Nat.mul_comm]
  have hbd : b &&& d < 2 ^ 8 := Nat.lt_of_le_of_lt Nat.and_le_left hb
  rw [e, e, e]
  apply Nat.eq_of_testBit_eq
  intro j
  rw [Nat.testBit_and, Nat.testBit_two_pow_mul_add _ hb, Nat.testBit_two_pow_mul_add _ hd, Nat.testBit_two_pow_mul_add _ hbd]
  split <;> rw [Nat.testBit_and]
def p8 (b : Nat) : Nat := cn (fun i => b.testBit i) 8
theorem s1_lo : ∀ r, r < 2 → ∀ l, l < 256 → (r * 128 + l / 2) &&& 85 = (l / 2) &&& 85 := by decide +kernel
theorem s2_lo : ∀ r, r < 4 → ∀ l, l < 256 → (r * 64 + l / 4) &&& 51 = (l / 4) &&& 51 := by decide +kernel
def g1 (b : Nat) : Nat := b - ((b / 2) &&& 85)
def g2 (c : Nat) : Nat := (c &&& 51) + ((c / 4) &&& 51)
def g3 (c : Nat) : Nat := (c + c / 16) % 16
theorem g_ok : ∀ b, b < 256 → g1 b < 256 ∧ g2 (g1 b) ≤ 68 ∧ g2 (g1 b) % 16 ≤ 4 ∧ g2 (g1 b) / 16 ≤ 4 ∧ g3 (g2 (g1 b)) = p8 b ∧ p8 b ≤ 8 := by decide +kernel
theorem s1_sp (M h l : Nat) (hl : l < 256) : (h * 256 + l) - (((h * 256 + l) / 2) &&& (M * 256 + 85)) = (h - ((h / 2) &&& M)) * 256 + g1 l := by
  rw [show (h * 256 + l) / 2 = (h / 2) * 256 + ((h % 2) * 128 + l / 2) by omega, an_sp _ _ (by omega) (by omega), s1_lo _ (by omega) _ hl]
  have a : h / 2 &&& M ≤ h / 2 := Nat.and_le_left
  have b : l / 2 &&& 85 ≤ l / 2 := Nat.and_le_left
  unfold g1; omega
theorem s2_sp (M h l : Nat) (hl : l < 256) : ((h * 256 + l) &&& (M * 256 + 51)) + (((h * 256 + l) / 4) &&& (M * 256 + 51)) = ((h &&& M) + ((h / 4) &&& M)) * 256 + g2 l := by
  rw [show (h * 256 + l) / 4 = (h / 4) * 256 + ((h % 4) * 64 + l / 4) by omega, an_sp _ _ hl (by omega), an_sp _ _ (show h % 4 * 64 + l / 4 < 256 by omega) (by omega), s2_lo _ (by omega) _ hl]
  unfold g2; omega
theorem a15 (x : Nat) : x &&& 15 = x % 16 := Nat.and_two_pow_sub_one_eq_mod x 4
theorem s3_sp (M h l : Nat) (hl : l ≤ 68) (hh : h % 16 ≤ 4) : ((h * 256 + l) + (h * 256 + l) / 16) &&& (M * 256 + 15) = ((h + h / 16) &&& M) * 256 + g3 l := by
  rw [show (h * 256 + l) + (h * 256 + l) / 16 = (h + h / 16) * 256 + (l + (h % 16) * 16 + l / 16) by omega, an_sp _ _ (by omega) (by omega), a15]
  unfold g3
  congr 1
  omega
theorem bc_nat {b0 b1 b2 b3 N n1 n2 n3 n4 : Nat} (h0 : b0 < 256) (h1 : b1 < 256) (h2 : b2 < 256) (h3 : b3 < 256) (hN : N = ((b3 * 256 + b2) * 256 + b1) * 256 + b0)
    (e1 : n1 = N - ((N / 2) &&& 1431655765)) (e2 : n2 = (n1 &&& 858993459) + ((n1 / 4) &&& 858993459)) (e3 : n3 = (n2 + n2 / 16) &&& 252645135) (e4 : n4 = n3 + n3 / 256) :
    (n4 + n4 / 65536) % 64 = p8 b0 + p8 b1 + p8 b2 + p8 b3 ∧ n1 < 4294967296 ∧ n2 < 4294967296 ∧ n2 + n2 / 16 < 4294967296 ∧ n3 < 4294967296 ∧ n4 < 4294967296 := by
  obtain ⟨a0, c0, d0, e0, f0, i0⟩ := g_ok b0 h0
  obtain ⟨a1, c1, d1, x1, f1, i1⟩ := g_ok b1 h1
  obtain ⟨a2, c2, d2, x2, f2, i2⟩ := g_ok b2 h2
  obtain ⟨a3, c3, d3, x3, f3, i3⟩ := g_ok b3 h3
  have t1 : n1 = ((g1 b3 * 256 + g1 b2) * 256 + g1 b1) * 256 + g1 b0 := by
    rw [e1, hN, show (1431655765 : Nat) = ((85 * 256 + 85) * 256 + 85) * 256 + 85 from rfl, s1_sp _ _ _ h0, s1_sp _ _ _ h1, s1_sp _ _ _ h2]; rfl
  have t2 : n2 = ((g2 (g1 b3) * 256 + g2 (g1 b2)) * 256 + g2 (g1 b1)) * 256 + g2 (g1 b0) := by
    rw [e2, t1, show (858993459 : Nat) = ((51 * 256 + 51) * 256 + 51) * 256 + 51 from rfl, s2_sp _ _ _ a0, s2_sp _ _ _ a1, s2_sp _ _ _ a2]; rfl
  have t3 : n3 = ((g3 (g2 (g1 b3)) * 256 + g3 (g2 (g1 b2))) * 256 + g3 (g2 (g1 b1))) * 256 + g3 (g2 (g1 b0)) := by
    rw [e3, t2, show (252645135 : Nat) = ((15 * 256 + 15) * 256 + 15) * 256 + 15 from rfl, s3_sp _ _ _ c0 (by omega), s3_sp _ _ _ c1 (by omega), s3_sp _ _ _ c2 (by omega), a15]; rfl
  rw [f0, f1, f2, f3] at t3
  have t4 : n4 = ((p8 b3 * 256 + (p8 b2 + p8 b3)) * 256 + (p8 b1 + p8 b2)) * 256 + (p8 b0 + p8 b1) := by
    have q : n3 / 256 = (p8 b3 * 256 + p8 b2) * 256 + p8 b1 := by omega
    omega
  have t5 : n4 / 65536 = p8 b3 * 256 + (p8 b2 + p8 b3) := by clear e1 e2 e3 t1 t2 t3 e4; omega
  refine ⟨?_, ?_, ?_, ?_, ?_, ?_⟩
  · rw [t5, t4]; clear e1 e2 e3 t1 t2 t3 e4 t4 t5; omega
  · rw [t1]; omega
  · rw [t2]; omega
  · rw [t2]; omega
  · rw [t3]; omega
  · rw [t4]; omega
theorem bt_nI {N i : Nat} (hi : i < 32) : bt (nI N) i = N.testBit i := by
  show (BitVec.ofNat 32 N).getLsbD i = _
  rw [BitVec.getLsbD_ofNat]; simp [hi]
theorem tb_byte (N k i : Nat) (hi : i < 8) : N.testBit (8 * k + i) = (N / 256 ^ k % 256).testBit i := by
  rw [show (256 : Nat) ^ k = 2 ^ (8 * k) by rw [Nat.pow_mul], show (256 : Nat) = 2 ^ 8 from rfl, Nat.testBit_mod_two_pow, decide_eq_true hi, Bool.true_and, Nat.testBit_div_two_pow, Nat.add_comm]
theorem bc_cn (N : Nat) : cn (bt (nI N)) 32 = p8 (N % 256) + p8 (N / 256 % 256) + p8 (N / 65536 % 256) + p8 (N / 16777216 % 256) := by
  have e : cn (bt (nI N)) 32 = cn (fun i => N.testBit i) 32 := cn_congr (fun i hi => bt_nI hi)
  rw [e, show (32 : Nat) = 8 + 8 + 8 + 8 from rfl, cn_shift, cn_shift, cn_shift]
  unfold p8
  congr 1
  · congr 1
    · congr 1
      · exact cn_congr (fun i hi => by have := tb_byte N 0 i hi; simpa using this)
      · exact cn_congr (fun i hi => by have := tb_byte N 1 i hi; simpa using this)
    · exact cn_congr (fun i hi => by have := tb_byte N 2 i hi; simpa using this)
  · exact cn_congr (fun i hi => by have := tb_byte N 3 i hi; simpa using this)
theorem nx_and (a b : Nat) : nI a &&& nI b = nI (a &&& b) := by
  apply Int32.toBitVec_inj.1
  show BitVec.ofNat 32 a &&& BitVec.ofNat 32 b = BitVec.ofNat 32 (a &&& b)
  apply BitVec.eq_of_getLsbD_eq
  intro i hi
  simp [hi]
theorem of32 (x : Int32) : ∃ n, n < 4294967296 ∧ x = nI n := ⟨x.toBitVec.toNat, x.toBitVec.isLt, by
  apply Int32.toBitVec_inj.1
  show x.toBitVec = BitVec.ofNat 32 x.toBitVec.toNat
  simp⟩
end
section
/-! the world as numbered cells: cell k at ad k, with what ce k says -/
def wx (N : Nat) (ad : Nat → Nat) (ce : Nat → va_E) : va_W := (List.range N).map (fun k => (ad k, ce k))
theorem wx_at {N : Nat} {ad : Nat → Nat} {ce : Nat → va_E} {k : Nat} {x : va_E} (h : k < N) (he : ce k = x) : (wx N ad ce)[k]? = some (ad k, x) := by
  unfold wx
  rw [List.getElem?_map, List.getElem?_range h]
  show some (ad k, ce k) = _
  rw [he]
theorem wx_some {N : Nat} {ad : Nat → Nat} {ce : Nat → va_E} {k : Nat} {q : Nat × va_E} (h : (wx N ad ce)[k]? = some q) : k < N ∧ q = (ad k, ce k) := by
  unfold wx at h
  rw [List.getElem?_map] at h
  rcases Nat.lt_or_ge k N with c | c
  · rw [List.getElem?_range c] at h
    exact ⟨c, (Option.some.inj h).symm⟩
  · rw [List.getElem?_eq_none (by rw [List.length_range]; exact c)] at h
    cases h
theorem wx_set {N : Nat} {ad : Nat → Nat} {ce : Nat → va_E} {k : Nat} {x : va_E} (h : k < N) : (wx N ad ce).set k (ad k, x) = wx N ad (va_up ce k x) := by
  apply List.ext_getElem?
  intro j
  by_cases hj : j = k
  · subst hj
    rw [List.getElem?_set_self (by unfold wx; rw [List.length_map, List.length_range]; exact h), wx_at h (va_up_self ce j x)]
  · rw [List.getElem?_set_ne (Ne.symm hj)]
    rcases Nat.lt_or_ge j N with c | c
    · rw [wx_at c rfl, wx_at c (va_up_ne ce x hj)]
    · unfold wx
      rw [List.getElem?_eq_none (by rw [List.length_map, List.length_range]; exact c), List.getElem?_eq_none (by rw [List.length_map, List.length_range]; exact c)]
theorem wx_push {N : Nat} {ad : Nat → Nat} {ce : Nat → va_E} {q : Nat} {x : va_E} : wx N ad ce ++ [(q, x)] = wx (N + 1) (va_up ad N q) (va_up ce N x) := by
  unfold wx
  rw [List.range_succ, List.map_append, List.map_singleton, va_up_self, va_up_self]
  congr 1
  apply List.map_congr_left
  intro k hk
  have : k ≠ N := by have := List.mem_range.mp hk; omega
  rw [va_up_ne _ _ this, va_up_ne _ _ this]
theorem wx_A {N : Nat} {ad : Nat → Nat} {ce ce' : Nat → va_E} {sz q : Nat} (h : va_A (wx N ad ce) sz q) : va_A (wx N ad ce') sz q := by
  rcases h with ⟨k, e, h⟩ | h
  · obtain ⟨hk, hq⟩ := wx_some h
    exact Or.inl ⟨k, ce' k, by rw [wx_at hk rfl, show q = ad k from congrArg Prod.fst hq]⟩
  · exact Or.inr h
/-- all words that hold at every state of a run -/
theorem wa_good {w : Cond} (h : w ∈ WA) : goodWord w = true := (List.mem_filter.mp h).2
theorem gd {ws : List Cond} (h : ∀ w ∈ ws, w ∈ WA) : GoodIn WA ws := fun w hw => ⟨h w hw, good_of_word (wa_good (h w hw))⟩
theorem gV {own C : String} {i n : Nat} {y : MethodName} {b : ByteArray} {r : Option FieldType} (h1 : Cond.methodLink own i y ∈ WA) (h2 : Cond.instanceMethod y ∈ WA) (h3 : Cond.selects C y y ∈ WA) (h4 : Cond.initialized C ∈ WA) (h5 : Cond.code y b n r ∈ WA) : GoodIn WA (wsV own i C y (.code y b n r :: WA)) := gd fun w hw => by
  rcases List.mem_append.mp hw with h | h
  · simp only [List.mem_cons, List.not_mem_nil, or_false] at h
    rcases h with rfl | rfl | rfl | rfl <;> assumption
  · rcases List.mem_cons.mp h with rfl | h
    · exact h5
    · exact h
theorem gS {own : String} {i n : Nat} {y : MethodName} {b : ByteArray} {r : Option FieldType} (h1 : Cond.methodLink own i y ∈ WA) (h2 : Cond.static y ∈ WA) (h4 : Cond.initialized y.cls ∈ WA) (h5 : Cond.code y b n r ∈ WA) : GoodIn WA (va_wsS own i y (.code y b n r :: WA)) := gd fun w hw => by
  rcases List.mem_append.mp hw with h | h
  · simp only [List.mem_cons, List.not_mem_nil, or_false] at h
    rcases h with rfl | rfl | rfl <;> assumption
  · rcases List.mem_cons.mp h with rfl | h
    · exact h5
    · exact h
theorem gSW {own : String} {i n : Nat} {y : MethodName} {b : ByteArray} {r : Option FieldType} {hh : List (Nat × Nat × Nat × Nat)} (h1 : Cond.methodLink own i y ∈ WA) (h2 : Cond.static y ∈ WA) (h4 : Cond.initialized y.cls ∈ WA) (h5 : Cond.codeWith y b n r hh ∈ WA) : GoodIn WA (va_wsS own i y (.codeWith y b n r hh :: WA)) := gd fun w hw => by
  rcases List.mem_append.mp hw with h | h
  · simp only [List.mem_cons, List.not_mem_nil, or_false] at h
    rcases h with rfl | rfl | rfl <;> assumption
  · rcases List.mem_cons.mp h with rfl | h
    · exact h5
    · exact h
theorem gI {n : Nat} {y : MethodName} {b : ByteArray} {r : Option FieldType} (h5 : Cond.code y b n r ∈ WA) : GoodIn WA (.code y b n r :: WA) := gd fun w hw => by
  rcases List.mem_cons.mp hw with rfl | h
  · exact h5
  · exact h
/-- what the tables say of the classes, and of the arrays of int, of levels, of long -/
abbrev TY (cI cO cJ : ClassId) : List (ClassId × FieldType) := [(cI, .int), (cO, .object RV), (cJ, .long)]
/-- the start of a method that reads alone -/
def PR (D : va_G) (ty : List (ClassId × FieldType)) (N : Nat) (ad : Nat → Nat) (ce : Nat → va_E) (av : List Value) : Array Value → State → Prop := va_Pc av (fun U => va_P D CLS (wx N ad ce) U.heap ∧ va_K D CLS ty U)
theorem PR_bl {D : va_G} {ty : List (ClassId × FieldType)} {N : Nat} {ad : Nat → Nat} {ce : Nat → va_E} {av : List Value} : FrameBlind (PR D ty N ad ce av) := fun a U g mk q => ⟨q.1, q.2.1, va_K.moved (u := U) (U := U.calling g mk a) (Vm.Alike.refl U.vm) q.2.2⟩
theorem PR_mk {D : va_G} {ty : List (ClassId × FieldType)} {N : Nat} {ad : Nat → Nat} {ce : Nat → va_E} {av : List Value} {s : State} {H : Heap} (hK : va_K D CLS ty s) (hP : va_P D CLS (wx N ad ce) H) : ∀ U : State, U.heap = H → s.WarmedH U.vm → PR D ty N ad ce av av.toArray U := fun U hU hW => ⟨rfl, by rw [hU]; exact hP, va_K.moved hW.alike hK⟩
theorem wx_recv {D : va_G} {ty : List (ClassId × FieldType)} {N : Nat} {ad : Nat → Nat} {ce : Nat → va_E} {s : State} {H : Heap} (hK : va_K D CLS ty s) (hP : va_P D CLS (wx N ad ce) H) {k ci n : Nat} {C : String} {T : u_T} {fs : List Value} (hk : k < N) (he : ce k = .inr (ci, fs)) (hc : CLS[ci]? = some (C, T, n)) : ∃ cellB : Cell, H[ad k]? = some cellB ∧ cellB.vm.isStatics = false ∧ s.vm.findClass C = some cellB.cls := va_recv hK hP (ci := ci) (q0 := k) hc (wx_at hk he)
/-- a method without a world -/
def P0 (av : List Value) : Array Value → State → Prop := va_Pc av (fun _ => True)
theorem P0_bl {av : List Value} : FrameBlind (P0 av) := fun a U g mk q => ⟨q.1, trivial⟩
theorem P0_mk {av : List Value} {s : State} {H : Heap} : ∀ U : State, U.heap = H → s.WarmedH U.vm → P0 av av.toArray U := fun U _ _ => ⟨rfl, trivial⟩
theorem leN {a b : Nat} (h : nI a ≤ nI b) (ha : a < 2147483648 := by omega) (hb : b < 2147483648 := by omega) : a ≤ b := (nI_leI ha hb).mp h
theorem ltN {a b : Nat} (h : nI a < nI b) (ha : a < 2147483648 := by omega) (hb : b < 2147483648 := by omega) : a < b := (nI_ltI ha hb).mp h
theorem nleN {a b : Nat} (h : ¬ nI a ≤ nI b) (ha : a < 2147483648 := by omega) (hb : b < 2147483648 := by omega) : b < a := Nat.not_le.mp (fun q => h ((nI_leI ha hb).mpr q))
theorem nltN {a b : Nat} (h : ¬ nI a < nI b) (ha : a < 2147483648 := by omega) (hb : b < 2147483648 := by omega) : b ≤ a := Nat.not_lt.mp (fun q => h ((nI_ltI ha hb).mpr q))
theorem eqN {a b : Nat} (h : nI a = nI b) (ha : a < 2147483648 := by omega) (hb : b < 2147483648 := by omega) : a = b := (nI_eq ha hb).mp h
theorem neN {a b : Nat} (h : ¬ nI a = nI b) (ha : a < 2147483648 := by omega) (hb : b < 2147483648 := by omega) : a ≠ b := fun q => h (by rw [q])
theorem clN {a : Nat} (ha : a < 2147483648 := by omega) : (nI a).toNatClampNeg = a := nI_clamp ha
theorem inN {a n : Nat} (h : a < n := by omega) (hn : n < 2147483648 := by omega) : vp_in (nI a) n := vp_in_nI h hn
end
section
/-! pictures of the objects, and small rows for the reads -/
abbrev bN (x : Bool) : Nat := if x = true then 1 else 0
theorem bN_lt (x : Bool) : bN x < 2 := by unfold bN; split <;> omega
/-- a level at cell k, its words and ranks behind it: the bits bb, n long -/
def LV (cI : ClassId) (ad : Nat → Nat) (ce : Nat → va_E) (k : Nat) (bb : Nat → Bool) (n : Nat) : Prop := ∃ (w r : Nat → Int32), ce k = .inr (0, [.ref (ad (k + 1)), .ref (ad (k + 2)), .int (nI n), .int (nI (n - cn bb n))]) ∧ ce (k + 1) = .inl (cI, 126, .inl w) ∧ ce (k + 2) = .inl (cI, 126, .inl r) ∧ (∀ q i, q < 126 → i < 32 → bt (w q) i = bb (32 * q + i)) ∧ (∀ q, q < 126 → r q = nI (cn bb (32 * q))) ∧ n ≤ 4000
/-- the tree at cell 2: nine levels from cell 6 on -/
def TR (cI cO : ClassId) (ad : Nat → Nat) (ce : Nat → va_E) (os : Nat → Nat → Nat) (n : Nat) : Prop := ce 2 = .inr (1, [.ref (ad 3), .ref (ad 4), .ref (ad 5), .int (nI n)]) ∧ (∃ lv : Nat → Option Nat, ce 3 = .inl (cO, 9, .inr (.inr (.inr (.inr lv)))) ∧ ∀ d, d < 9 → lv d = some (ad (6 + 3 * d))) ∧ (∀ d, d < 9 → LV cI ad ce (6 + 3 * d) (bs os n d) n) ∧ n ≤ 4000
theorem pw32 {a : Nat} (h : a < 32) : 1 * 2 ^ a < 2 ^ 32 := by rw [Nat.one_mul]; exact Nat.pow_lt_pow_of_lt (by omega) h
theorem bt_mask {a i : Nat} (hi : i < 32) : bt (nI (1 * 2 ^ a - 1)) i = decide (i < a) := by rw [bt_nI hi, Nat.one_mul, Nat.testBit_two_pow_sub_one]
theorem ob_sum {w : Nat → Int32} {bb : Nat → Bool} {p M : Nat} (hp : p ≤ 4000) (hw : ∀ q i, q < 126 → i < 32 → bt (w q) i = bb (32 * q + i)) (eM : w (p / 32) &&& nI (1 * 2 ^ (p % 32) - 1) = nI M) : cn bb (32 * (p / 32)) + cn (bt (nI M)) 32 = cn bb p := by
  have h1 : ∀ i, i < 32 → bt (nI M) i = (bb (32 * (p / 32) + i) && decide (i < p % 32)) := fun i hi => by rw [← eM, b_and, hw _ _ (by omega) hi, bt_mask hi]
  have h2 := cn_shift (bt (nI M)) (p % 32) (32 - p % 32)
  rw [show p % 32 + (32 - p % 32) = 32 by omega] at h2
  have h3 : cn (bt (nI M)) (p % 32) = cn (fun i => bb (32 * (p / 32) + i)) (p % 32) := cn_congr (fun i hi => by rw [h1 i (by omega), decide_eq_true hi, Bool.and_true])
  have h4 : cn (fun i => bt (nI M) (p % 32 + i)) (32 - p % 32) = 0 := cn_none (fun i hi => by rw [h1 _ (by omega), decide_eq_false (by omega), Bool.and_false])
  have h5 := cn_shift bb (32 * (p / 32)) (p % 32)
  rw [show 32 * (p / 32) + p % 32 = p by omega] at h5
  omega
theorem bt_1 (y : Bool) {i : Nat} (hi : i < 32) : bt (nI (bN y)) i = (decide (i = 0) && y) := by
  rw [bt_nI hi]
  cases y
  · show Nat.testBit 0 i = _
    rw [Nat.zero_testBit, Bool.and_false]
  · show Nat.testBit 1 i = _
    rw [Bool.and_true]
    exact (by decide +kernel : ∀ i, i < 32 → Nat.testBit 1 i = decide (i = 0)) i hi
theorem ba_bit {x : Int32} {a : Nat} (ha : a < 32) {y : Bool} (hy : bt x a = y) : (x.toUInt32 >>> ((nI a).toUInt32 &&& Int32.toUInt32 31)).toInt32 &&& nI 1 = nI (bN y) := by
  apply b_ext
  intro i hi
  rw [b_and, b_ushr a ha, bt_1 y hi, show nI 1 = nI (bN true) from rfl, bt_1 true hi, Bool.and_true]
  by_cases h : i = 0
  · rw [h, Nat.add_zero, hy]; simp
  · simp [h]
theorem sh1 {x s : Nat} (hx : x < 2147483648) (hs : s < 32) : (nI x >>> (nI s &&& 31)) &&& nI 1 = nI (bN (tb x s)) := by
  rw [pk_shrN hx _ s (s_l s hs), pk_andN (Nat.lt_of_le_of_lt (Nat.div_le_self _ _) (by omega)) 1 (by decide +kernel)]
  congr 1
  unfold tb bN
  show x / 2 ^ s % 2 = _
  rcases Nat.mod_two_eq_zero_or_one (x / 2 ^ s) with h | h <;> simp [h]
theorem hf2 (j : Nat) : 2 ^ (j + 1) / 2 = 2 ^ j := by rw [Nat.pow_succ]; omega
theorem bx_f {x : Bool} (h : ¬ nI (bN x) = nI 1) : x = false := by
  cases x
  · rfl
  · exact absurd rfl h
theorem bx_t {x : Bool} (h : nI (bN x) = nI 1) : x = true := by
  cases x
  · exact absurd h (by decide +kernel)
  · rfl
theorem LV.o {cI : ClassId} {ad : Nat → Nat} {ce : Nat → va_E} {k : Nat} {bb : Nat → Bool} {n : Nat} (h : LV cI ad ce k bb n) : ce k = .inr (0, [.ref (ad (k + 1)), .ref (ad (k + 2)), .int (nI n), .int (nI (n - cn bb n))]) := by
  obtain ⟨w, r, h0, -⟩ := h
  exact h0
theorem pq_e (os : Nat → Nat → Nat) (n d y q : Nat) : pq os n (d + 1) (2 * y) q = dn (bs os n d) n false (pq os n d y q) := pq_s os n d y q false
theorem pq_o (os : Nat → Nat → Nat) (n d y q : Nat) : pq os n (d + 1) (2 * y + 1) q = dn (bs os n d) n true (pq os n d y q) := pq_s os n d y q true
theorem zc {f : Nat → Nat} {n : Nat} {os : Nat → Nat → Nat} (hw : WM f n os) (hf : ∀ i, i < n → f i < 512) {d : Nat} (hd : d < 9) {y : Nat} (hy : y < 2 ^ d) {u v : Nat} (huv : u ≤ v) (hv : v ≤ n) : dn (bs os n d) n false (pq os n d y v) - dn (bs os n d) n false (pq os n d y u) = ct (fun i => decide (tp (d + 1) (f i) = 2 * y)) u v := by
  rw [← pq_e, ← pq_e]
  exact pq_ct hw hf (by omega) (by rw [Nat.pow_succ]; omega) huv hv
abbrev gl (f : Nat → Nat) (u v d y : Nat) : Nat := ct (fun i => decide (tp d (f i) < y)) u v
theorem gl0 (f : Nat → Nat) {u v d : Nat} (h : u ≤ v) : gl f u v d 0 = 0 := ct_none h (fun i _ => by simp)
theorem pl_sum {f : Nat → Nat} {n : Nat} {os : Nat → Nat → Nat} (hw : WM f n os) (hf : ∀ i, i < n → f i < 512) {x i : Nat} (hx : x < 512) (hi : i < n) : pq os n 9 x 0 + cn (fun j => decide (f j = x)) i = pq os n 9 x i := by
  have h := pq_len hw hf (d := 9) (Nat.le_refl 9) (y := x) hx (v := i) (by omega)
  simp only [tp_9] at h
  omega
theorem gl_e {f : Nat → Nat} {u v d : Nat} (hd : d < 9) (y : Nat) (h : u ≤ v) : gl f u v d y = gl f u v (d + 1) (2 * y) := (gk_lt0 hd y h).symm
end
section
set_option maxHeartbeats 4000000 in
set_option maxRecDepth 100000 in
/-- Integer.bitCount -/
theorem c_J_bitCount (l : Launch) (N : Nat) (hN : N < 4294967296) : Met l yJ_bitCount (.code yJ_bitCount bJ_bitCount 1 (some .int) :: WA) ({ frames := 0, cells := 0, slots := 0, locals := 0 }) (P0 [.int (nI N)]) (vp_Si (fun r => r = nI (cn (bt (nI N)) 32))) 0 0 (fun _ => False) := by
  refine Met.ofW (cc := bJ_bitCount) (maxL := 1) (ret := (some .int)) (by decide) rfl ?_
  intro p e s m args below meth c s₁ B hml hv
  obtain ⟨rfl, -⟩ := hv
  have hx := B.exec
  have hb := B.bytes
  have hr := B.returns
  have hA9 : ∀ w ∈ WA, w.before _ s = true := fun w h => atoms_spec (ws := .code yJ_bitCount bJ_bitCount 1 (some .int) :: WA) B.pre w (List.mem_cons_of_mem _ h)
  have hown : s.vm.findClass RJ = some m.cls := findClass_of_methodNamed B.named
  have hlocks := B.notSynchronized
  have hl := lv_entry ([.int (nI N)]) (n := 1) (Nat.le_of_ble_eq_true rfl)
  rw [lg_entry_eq]
  generalize (lg_sl ([.int (nI N)]) ++ List.replicate (1 - (lg_sl ([.int (nI N)])).length) Slot.unset).toArray = ls at hl ⊢
  have hl : lv_has ls 1 [(0, .int (nI N))] := hl
  obtain ⟨n1, e1⟩ : ∃ z, z = N - (N / 2 &&& 1431655765) := ⟨_, rfl⟩
  obtain ⟨n2, e2⟩ : ∃ z, z = (n1 &&& 858993459) + (n1 / 4 &&& 858993459) := ⟨_, rfl⟩
  obtain ⟨n3, e3⟩ : ∃ z, z = (n2 + n2 / 16) &&& 252645135 := ⟨_, rfl⟩
  obtain ⟨n4, e4⟩ : ∃ z, z = n3 + n3 / 256 := ⟨_, rfl⟩
  obtain ⟨bc, h1, h2, -, h3, h4⟩ := bc_nat (b0 := N % 256) (b1 := N / 256 % 256) (b2 := N / 65536 % 256) (b3 := N / 16777216 % 256) (by omega) (by omega) (by omega) (by omega) (by omega) e1 e2 e3 e4
  refine lv_iload_n hx hb dJ_bitCount_0 rfl (lv_at hl 0 rfl) ?_
  refine lv_iload_n hx hb dJ_bitCount_1 rfl (lv_at hl 0 rfl) ?_
  refine lv_iconst (v := nI 1) hx hb dJ_bitCount_2 (by decide +kernel) ?_
  refine lv_iushr (v := nI (N / 2)) hx hb dJ_bitCount_3 (by exact pk_ushrN hN (nI 1) 1 (by decide +kernel)) ?_
  refine lv_ldcw (v := nI 1431655765) hx hb hown (hA9 _ mq_265) dJ_bitCount_4 ?_
  refine lv_iand hx hb dJ_bitCount_7 ?_
  refine lv_topi (fun z1 ez1 => ?_)
  obtain rfl : z1 = nI (N / 2 &&& 1431655765) := by rw [ez1]; exact nx_and _ _
  refine lv_isub hx hb dJ_bitCount_8 ?_
  refine lv_topi (fun z2 ez2 => ?_)
  obtain rfl : z2 = nI n1 := by rw [ez2]; rw [pk_sub (Nat.le_trans Nat.and_le_left (Nat.div_le_self _ _)), e1]
  refine lv_istore_n (lv' := [(0, .int (nI n1))]) hx hb dJ_bitCount_9 rfl hl (by decide) rfl (fun ls hl => ?_)
  refine lv_iload_n hx hb dJ_bitCount_10 rfl (lv_at hl 0 rfl) ?_
  refine lv_ldcw (v := nI 858993459) hx hb hown (hA9 _ mq_266) dJ_bitCount_11 ?_
  refine lv_iand hx hb dJ_bitCount_14 ?_
  refine lv_topi (fun z3 ez3 => ?_)
  obtain rfl : z3 = nI (n1 &&& 858993459) := by rw [ez3]; exact nx_and _ _
  refine lv_iload_n hx hb dJ_bitCount_15 rfl (lv_at hl 0 rfl) ?_
  refine lv_iconst (v := nI 2) hx hb dJ_bitCount_16 (by decide +kernel) ?_
  refine lv_iushr (v := nI (n1 / 4)) hx hb dJ_bitCount_17 (by exact pk_ushrN h1 (nI 2) 2 (by decide +kernel)) ?_
  refine lv_ldcw (v := nI 858993459) hx hb hown (hA9 _ mq_266) dJ_bitCount_18 ?_
  refine lv_iand hx hb dJ_bitCount_21 ?_
  refine lv_topi (fun z4 ez4 => ?_)
  obtain rfl : z4 = nI (n1 / 4 &&& 858993459) := by rw [ez4]; exact nx_and _ _
  refine lv_iadd hx hb dJ_bitCount_22 ?_
  refine lv_topi (fun z5 ez5 => ?_)
  obtain rfl : z5 = nI n2 := by rw [ez5]; rw [nI_add, e2]
  refine lv_istore_n (lv' := [(0, .int (nI n2))]) hx hb dJ_bitCount_23 rfl hl (by decide) rfl (fun ls hl => ?_)
  refine lv_iload_n hx hb dJ_bitCount_24 rfl (lv_at hl 0 rfl) ?_
  refine lv_iload_n hx hb dJ_bitCount_25 rfl (lv_at hl 0 rfl) ?_
  refine lv_iconst (v := nI 4) hx hb dJ_bitCount_26 (by decide +kernel) ?_
  refine lv_iushr (v := nI (n2 / 16)) hx hb dJ_bitCount_27 (by exact pk_ushrN h2 (nI 4) 4 (by decide +kernel)) ?_
  refine lv_iadd hx hb dJ_bitCount_28 ?_
  refine lv_topi (fun z6 ez6 => ?_)
  obtain rfl : z6 = nI (n2 + n2 / 16) := by rw [ez6]; exact nI_add _ _
  refine lv_ldcw (v := nI 252645135) hx hb hown (hA9 _ mq_267) dJ_bitCount_29 ?_
  refine lv_iand hx hb dJ_bitCount_32 ?_
  refine lv_topi (fun z7 ez7 => ?_)
  obtain rfl : z7 = nI n3 := by rw [ez7]; rw [nx_and, e3]
  refine lv_istore_n (lv' := [(0, .int (nI n3))]) hx hb dJ_bitCount_33 rfl hl (by decide) rfl (fun ls hl => ?_)
  refine lv_iload_n hx hb dJ_bitCount_34 rfl (lv_at hl 0 rfl) ?_
  refine lv_iload_n hx hb dJ_bitCount_35 rfl (lv_at hl 0 rfl) ?_
  refine lv_bipush (v := nI 8) hx hb dJ_bitCount_36 (by decide +kernel) ?_
  refine lv_iushr (v := nI (n3 / 256)) hx hb dJ_bitCount_38 (by exact pk_ushrN h3 (nI 8) 8 (by decide +kernel)) ?_
  refine lv_iadd hx hb dJ_bitCount_39 ?_
  refine lv_topi (fun z8 ez8 => ?_)
  obtain rfl : z8 = nI n4 := by rw [ez8]; rw [nI_add, e4]
  refine lv_istore_n (lv' := [(0, .int (nI n4))]) hx hb dJ_bitCount_40 rfl hl (by decide) rfl (fun ls hl => ?_)
  refine lv_iload_n hx hb dJ_bitCount_41 rfl (lv_at hl 0 rfl) ?_
  refine lv_iload_n hx hb dJ_bitCount_42 rfl (lv_at hl 0 rfl) ?_
  refine lv_bipush (v := nI 16) hx hb dJ_bitCount_43 (by decide +kernel) ?_
  refine lv_iushr (v := nI (n4 / 65536)) hx hb dJ_bitCount_45 (by exact pk_ushrN h4 (nI 16) 16 (by decide +kernel)) ?_
  refine lv_iadd hx hb dJ_bitCount_46 ?_
  refine lv_topi (fun z9 ez9 => ?_)
  obtain rfl : z9 = nI (n4 + n4 / 65536) := by rw [ez9]; exact nI_add _ _
  refine lv_istore_n (lv' := [(0, .int (nI (n4 + n4 / 65536)))]) hx hb dJ_bitCount_47 rfl hl (by decide) rfl (fun ls hl => ?_)
  refine lv_iload_n hx hb dJ_bitCount_48 rfl (lv_at hl 0 rfl) ?_
  refine lv_bipush (v := nI 63) hx hb dJ_bitCount_49 (by decide +kernel) ?_
  refine lv_iand hx hb dJ_bitCount_51 ?_
  refine lv_topi (fun z10 ez10 => ?_)
  obtain rfl : z10 = nI (cn (bt (nI N)) 32) := by rw [ez10]; rw [nx_and, show (63 : Nat) = 2 ^ 6 - 1 from rfl, Nat.and_two_pow_sub_one_eq_mod, bc, bc_cn]
  exact W.iret (v := (nI (cn (bt (nI N)) 32))) hx hb hr (fun t ht hW => ⟨(nI (cn (bt (nI N)) 32)), rfl, rfl, ht⟩) (fun q h => nomatch h) dJ_bitCount_52

set_option maxHeartbeats 4000000 in
set_option maxRecDepth 100000 in
theorem c_V_onesBefore (l : Launch) (D : va_G) (cI cO cJ : ClassId) (N : Nat) (ad : Nat → Nat) (ce : Nat → va_E) (k : Nat) (hk : k + 2 < N) (bb : Nat → Bool) (n : Nat) (hV : LV cI ad ce k bb n) (i : Nat) (hp : i ≤ n) : Met l yV_onesBefore (.code yV_onesBefore bV_onesBefore 4 (some .int) :: WA) ({ frames := 1, cells := 0, slots := 0, locals := 20 }) (PR D (TY cI cO cJ) N ad ce [.ref (ad k), .int (nI i)]) (vp_Si (fun r => r = nI (cn bb i))) 0 0 (fun _ => False) := by
  refine Met.ofW (cc := bV_onesBefore) (maxL := 4) (ret := (some .int)) (by decide) rfl ?_
  intro p e s m args below meth c s₁ B hml hv
  obtain ⟨rfl, hP, hK⟩ := hv
  have hx := B.exec
  have hb := B.bytes
  have hr := B.returns
  have hA9 : ∀ w ∈ WA, w.before _ s = true := fun w h => atoms_spec (ws := .code yV_onesBefore bV_onesBefore 4 (some .int) :: WA) B.pre w (List.mem_cons_of_mem _ h)
  have hown : s.vm.findClass RV = some m.cls := findClass_of_methodNamed B.named
  have hlocks := B.notSynchronized
  have hl := lv_entry ([.ref (ad k), .int (nI i)]) (n := 4) (Nat.le_of_ble_eq_true rfl)
  rw [lg_entry_eq]
  generalize (lg_sl ([.ref (ad k), .int (nI i)]) ++ List.replicate (4 - (lg_sl ([.ref (ad k), .int (nI i)])).length) Slot.unset).toArray = ls at hl ⊢
  have hl : lv_has ls 4 [(0, .ref (ad k)), (1, .int (nI i))] := hl
  obtain ⟨w, r, h0, h1, h2, hw, hrk, hn⟩ := id hV
  refine lv_iload_n hx hb dV_onesBefore_0 rfl (lv_at hl 1 rfl) ?_
  refine lv_bipush (v := nI 32) hx hb dV_onesBefore_1 (by decide +kernel) ?_
  refine lv_idiv hx hb dV_onesBefore_3 (by decide +kernel) ?_
  refine lv_topi (fun z1 ez1 => ?_)
  obtain rfl : z1 = nI (i / 32) := by rw [ez1]; exact pk_div (by omega) (by omega) (by omega)
  refine lv_istore_n (lv' := [(2, .int (nI (i / 32))), (0, .ref (ad k)), (1, .int (nI i))]) hx hb dV_onesBefore_4 rfl hl (by decide) rfl (fun ls hl => ?_)
  refine lv_iconst (v := nI 1) hx hb dV_onesBefore_5 (by decide +kernel) ?_
  refine lv_iload_n hx hb dV_onesBefore_6 rfl (lv_at hl 2 rfl) ?_
  refine lv_bipush (v := nI 32) hx hb dV_onesBefore_7 (by decide +kernel) ?_
  refine lv_irem hx hb dV_onesBefore_9 (by decide +kernel) ?_
  refine lv_topi (fun z2 ez2 => ?_)
  obtain rfl : z2 = nI (i % 32) := by rw [ez2]; exact pk_rem (by omega) (by omega) (by omega)
  refine lv_ishl hx hb dV_onesBefore_10 ?_
  refine lv_topi (fun z3 ez3 => ?_)
  obtain rfl : z3 = nI (1 * 2 ^ (i % 32)) := by rw [ez3]; exact pk_shlN _ (i % 32) (s_l _ (by omega)) (pw32 (by omega))
  refine lv_iconst (v := nI 1) hx hb dV_onesBefore_11 (by decide +kernel) ?_
  refine lv_isub hx hb dV_onesBefore_12 ?_
  refine lv_topi (fun z4 ez4 => ?_)
  obtain rfl : z4 = nI (1 * 2 ^ (i % 32) - 1) := by rw [ez4]; exact pk_sub (by have := Nat.two_pow_pos (i % 32); omega)
  refine lv_istore_n (lv' := [(3, .int (nI (1 * 2 ^ (i % 32) - 1))), (2, .int (nI (i / 32))), (0, .ref (ad k)), (1, .int (nI i))]) hx hb dV_onesBefore_13 rfl hl (by decide) rfl (fun ls hl => ?_)
  refine lv_aload_n hx hb dV_onesBefore_14 rfl (lv_at hl 2 rfl) ?_
  refine va_get (D := D) (ci := 0) (v := .ref (ad (k + 2))) (C := RV) (T := TV) (N := 4) hx hb hA9 inV hown hK hP k (wx_at (by omega) h0) rfl 1 (by decide) (hA9 _ mfV_15) (fun _ h9 => h9) rfl dV_onesBefore_15 ?_
  refine lv_iload_n hx hb dV_onesBefore_18 rfl (lv_at hl 1 rfl) ?_
  refine va_iald hx hb hK hP (k + 2) 0 (wx_at (by omega) h2) rfl (inN) dV_onesBefore_19 ?_
  refine lv_topi (fun z5 ez5 => ?_)
  obtain rfl : z5 = nI (cn bb (32 * (i / 32))) := by rw [ez5, clN]; exact hrk _ (by omega)
  refine lv_aload_n hx hb dV_onesBefore_20 rfl (lv_at hl 2 rfl) ?_
  refine va_get (D := D) (ci := 0) (v := .ref (ad (k + 1))) (C := RV) (T := TV) (N := 4) hx hb hA9 inV hown hK hP k (wx_at (by omega) h0) rfl 0 (by decide) (hA9 _ mfV_9) (fun _ h9 => h9) rfl dV_onesBefore_21 ?_
  refine lv_iload_n hx hb dV_onesBefore_24 rfl (lv_at hl 1 rfl) ?_
  refine va_iald hx hb hK hP (k + 1) 0 (wx_at (by omega) h1) rfl (inN) dV_onesBefore_25 ?_
  refine lv_topi (fun z6 ez6 => ?_)
  obtain rfl : z6 = w (i / 32) := by rw [ez6, clN]
  refine lv_iload_n hx hb dV_onesBefore_26 rfl (lv_at hl 0 rfl) ?_
  obtain ⟨M, hM, eM⟩ := of32 (w (i / 32) &&& nI (1 * 2 ^ (i % 32) - 1))
  refine lv_iand hx hb dV_onesBefore_27 ?_
  refine lv_topi (fun z7 ez7 => ?_)
  obtain rfl : z7 = nI M := by rw [ez7]; exact eM
  refine vp_callSi (va_runS (As := [.int (nI M)]) (rest := [.int (nI (cn bb (32 * (i / 32))))]) ⟨hx, hb, hml, hown, hA9⟩ (c_J_bitCount l M hM) (va_cwS 1 hA9 (gS mlV_31 mtJ_bitCount mn_J mkJ_bitCount) rfl rfl rfl (by decide +kernel) ⟨Nat.le_of_ble_eq_true rfl, Nat.le_of_ble_eq_true rfl⟩) ⟨P0_bl, P0_mk⟩ rfl rfl hl.1 rfl (lv_room (Nat.le_of_ble_eq_true rfl)) dV_onesBefore_28 ⟨Nat.le_of_ble_eq_true rfl, Nat.le_of_ble_eq_true rfl⟩).run (fun r8 hr8 => ?_)
  obtain rfl : r8 = nI (cn (bt (nI M)) 32) := hr8
  refine lv_iadd hx hb dV_onesBefore_31 ?_
  refine lv_topi (fun z9 ez9 => ?_)
  obtain rfl : z9 = nI (cn bb i) := by rw [ez9]; rw [nI_add, ob_sum (by omega) hw eM]
  exact W.iret (v := (nI (cn bb i))) hx hb hr (fun t ht hW => ⟨(nI (cn bb i)), rfl, rfl, ht⟩) (fun q h => nomatch h) dV_onesBefore_32

set_option maxHeartbeats 4000000 in
set_option maxRecDepth 100000 in
theorem c_V_bitAt (l : Launch) (D : va_G) (cI cO cJ : ClassId) (N : Nat) (ad : Nat → Nat) (ce : Nat → va_E) (k : Nat) (hk : k + 2 < N) (bb : Nat → Bool) (n : Nat) (hV : LV cI ad ce k bb n) (i : Nat) (hp : i < n) : Met l yV_bitAt (.code yV_bitAt bV_bitAt 2 (some .int) :: WA) ({ frames := 0, cells := 0, slots := 0, locals := 0 }) (PR D (TY cI cO cJ) N ad ce [.ref (ad k), .int (nI i)]) (vp_Si (fun r => r = nI (bN (bb i)))) 0 0 (fun _ => False) := by
  refine Met.ofW (cc := bV_bitAt) (maxL := 2) (ret := (some .int)) (by decide) rfl ?_
  intro p e s m args below meth c s₁ B hml hv
  obtain ⟨rfl, hP, hK⟩ := hv
  have hx := B.exec
  have hb := B.bytes
  have hr := B.returns
  have hA9 : ∀ w ∈ WA, w.before _ s = true := fun w h => atoms_spec (ws := .code yV_bitAt bV_bitAt 2 (some .int) :: WA) B.pre w (List.mem_cons_of_mem _ h)
  have hown : s.vm.findClass RV = some m.cls := findClass_of_methodNamed B.named
  have hlocks := B.notSynchronized
  have hl := lv_entry ([.ref (ad k), .int (nI i)]) (n := 2) (Nat.le_of_ble_eq_true rfl)
  rw [lg_entry_eq]
  generalize (lg_sl ([.ref (ad k), .int (nI i)]) ++ List.replicate (2 - (lg_sl ([.ref (ad k), .int (nI i)])).length) Slot.unset).toArray = ls at hl ⊢
  have hl : lv_has ls 2 [(0, .ref (ad k)), (1, .int (nI i))] := hl
  obtain ⟨w, r, h0, h1, h2, hw, hrk, hn⟩ := id hV
  refine lv_aload_n hx hb dV_bitAt_0 rfl (lv_at hl 0 rfl) ?_
  refine va_get (D := D) (ci := 0) (v := .ref (ad (k + 1))) (C := RV) (T := TV) (N := 4) hx hb hA9 inV hown hK hP k (wx_at (by omega) h0) rfl 0 (by decide) (hA9 _ mfV_9) (fun _ h9 => h9) rfl dV_bitAt_1 ?_
  refine lv_iload_n hx hb dV_bitAt_4 rfl (lv_at hl 1 rfl) ?_
  refine lv_bipush (v := nI 32) hx hb dV_bitAt_5 (by decide +kernel) ?_
  refine lv_idiv hx hb dV_bitAt_7 (by decide +kernel) ?_
  refine lv_topi (fun z1 ez1 => ?_)
  obtain rfl : z1 = nI (i / 32) := by rw [ez1]; exact pk_div (by omega) (by omega) (by omega)
  refine va_iald hx hb hK hP (k + 1) 0 (wx_at (by omega) h1) rfl (inN) dV_bitAt_8 ?_
  refine lv_topi (fun z2 ez2 => ?_)
  obtain rfl : z2 = w (i / 32) := by rw [ez2, clN]
  refine lv_iload_n hx hb dV_bitAt_9 rfl (lv_at hl 1 rfl) ?_
  refine lv_bipush (v := nI 32) hx hb dV_bitAt_10 (by decide +kernel) ?_
  refine lv_irem hx hb dV_bitAt_12 (by decide +kernel) ?_
  refine lv_topi (fun z3 ez3 => ?_)
  obtain rfl : z3 = nI (i % 32) := by rw [ez3]; exact pk_rem (by omega) (by omega) (by omega)
  refine lv_iushr (v := ((w (i / 32)).toUInt32 >>> ((nI (i % 32)).toUInt32 &&& Int32.toUInt32 31)).toInt32) hx hb dV_bitAt_13 (by rfl) ?_
  refine lv_iconst (v := nI 1) hx hb dV_bitAt_14 (by decide +kernel) ?_
  refine lv_iand hx hb dV_bitAt_15 ?_
  refine lv_topi (fun z4 ez4 => ?_)
  obtain rfl : z4 = nI (bN (bb i)) := by rw [ez4]; exact ba_bit (by omega) (by rw [hw _ _ (by omega) (by omega), show 32 * (i / 32) + i % 32 = i by omega])
  exact W.iret (v := (nI (bN (bb i)))) hx hb hr (fun t ht hW => ⟨(nI (bN (bb i))), rfl, rfl, ht⟩) (fun q h => nomatch h) dV_bitAt_16

set_option maxHeartbeats 4000000 in
set_option maxRecDepth 100000 in
theorem c_V_down (l : Launch) (D : va_G) (cI cO cJ : ClassId) (N : Nat) (ad : Nat → Nat) (ce : Nat → va_E) (k : Nat) (hk : k + 2 < N) (bb : Nat → Bool) (n : Nat) (hV : LV cI ad ce k bb n) (x : Bool) (i : Nat) (hp : i ≤ n) : Met l yV_down (.code yV_down bV_down 3 (some .int) :: WA) ({ frames := 2, cells := 0, slots := 0, locals := 43 }) (PR D (TY cI cO cJ) N ad ce [.ref (ad k), .int (nI (bN x)), .int (nI i)]) (vp_Si (fun r => r = nI (dn bb n x i))) 0 0 (fun _ => False) := by
  refine Met.ofW (cc := bV_down) (maxL := 3) (ret := (some .int)) (by decide) rfl ?_
  intro p e s m args below meth c s₁ B hml hv
  obtain ⟨rfl, hP, hK⟩ := hv
  have hx := B.exec
  have hb := B.bytes
  have hr := B.returns
  have hA9 : ∀ w ∈ WA, w.before _ s = true := fun w h => atoms_spec (ws := .code yV_down bV_down 3 (some .int) :: WA) B.pre w (List.mem_cons_of_mem _ h)
  have hown : s.vm.findClass RV = some m.cls := findClass_of_methodNamed B.named
  have hlocks := B.notSynchronized
  have hl := lv_entry ([.ref (ad k), .int (nI (bN x)), .int (nI i)]) (n := 3) (Nat.le_of_ble_eq_true rfl)
  rw [lg_entry_eq]
  generalize (lg_sl ([.ref (ad k), .int (nI (bN x)), .int (nI i)]) ++ List.replicate (3 - (lg_sl ([.ref (ad k), .int (nI (bN x)), .int (nI i)])).length) Slot.unset).toArray = ls at hl ⊢
  have hl : lv_has ls 3 [(0, .ref (ad k)), (1, .int (nI (bN x))), (2, .int (nI i))] := hl
  obtain ⟨w, r, h0, h1, h2, hw, hrk, hn⟩ := id hV
  refine lv_iload_n hx hb dV_down_0 rfl (lv_at hl 1 rfl) ?_
  refine lv_iconst (v := nI 1) hx hb dV_down_1 (by decide +kernel) ?_
  refine lv_icmp_ne (tgt := 18) hx hb dV_down_2 (by decide) (fun c2 => ?_) (fun c2 => ?_)
  · skip
    have hxf := bx_f c2
    refine lv_iload_n hx hb dV_down_18 rfl (lv_at hl 2 rfl) ?_
    refine lv_aload_n hx hb dV_down_19 rfl (lv_at hl 0 rfl) ?_
    refine lv_iload_n hx hb dV_down_20 rfl (lv_at hl 2 rfl) ?_
    refine vp_callSi (va_runV (As := [.int (nI i)]) (rest := [.int (nI i)]) ⟨hx, hb, hml, hown, hA9⟩ (c_V_onesBefore l D cI cO cJ N ad ce k hk bb n hV i hp) (cwV 1 hA9 (gV mlV_37 miV_onesBefore msV_onesBefore mn_V mkV_onesBefore) rfl rfl rfl (by decide +kernel) ⟨Nat.le_of_ble_eq_true rfl, Nat.le_of_ble_eq_true rfl⟩) ⟨PR_bl, wx_recv hK hP (by omega) h0 rfl, PR_mk hK hP⟩ rfl rfl hl.1 rfl (lv_room (Nat.le_of_ble_eq_true rfl)) dV_down_21 ⟨Nat.le_of_ble_eq_true rfl, Nat.le_of_ble_eq_true rfl⟩).run (fun r1 hr1 => ?_)
    obtain rfl : r1 = nI (cn bb i) := hr1
    refine lv_isub hx hb dV_down_24 ?_
    refine lv_topi (fun z2 ez2 => ?_)
    obtain rfl : z2 = nI (dn bb n x i) := by rw [ez2]; rw [hxf, dn_0]; exact pk_sub (cn_le _ _)
    exact W.iret (v := (nI (dn bb n x i))) hx hb hr (fun t ht hW => ⟨(nI (dn bb n x i)), rfl, rfl, ht⟩) (fun q h => nomatch h) dV_down_25
  · skip
    have hxt := bx_t c2
    refine lv_aload_n hx hb dV_down_5 rfl (lv_at hl 0 rfl) ?_
    refine va_get (D := D) (ci := 0) (v := .int (nI (n - cn bb n))) (C := RV) (T := TV) (N := 4) hx hb hA9 inV hown hK hP k (wx_at (by omega) h0) rfl 3 (by decide) (hA9 _ mfV_22) (fun _ h9 => h9) rfl dV_down_6 ?_
    refine lv_aload_n hx hb dV_down_9 rfl (lv_at hl 0 rfl) ?_
    refine lv_iload_n hx hb dV_down_10 rfl (lv_at hl 2 rfl) ?_
    refine vp_callSi (va_runV (As := [.int (nI i)]) (rest := [.int (nI (n - cn bb n))]) ⟨hx, hb, hml, hown, hA9⟩ (c_V_onesBefore l D cI cO cJ N ad ce k hk bb n hV i hp) (cwV 1 hA9 (gV mlV_37 miV_onesBefore msV_onesBefore mn_V mkV_onesBefore) rfl rfl rfl (by decide +kernel) ⟨Nat.le_of_ble_eq_true rfl, Nat.le_of_ble_eq_true rfl⟩) ⟨PR_bl, wx_recv hK hP (by omega) h0 rfl, PR_mk hK hP⟩ rfl rfl hl.1 rfl (lv_room (Nat.le_of_ble_eq_true rfl)) dV_down_11 ⟨Nat.le_of_ble_eq_true rfl, Nat.le_of_ble_eq_true rfl⟩).run (fun r3 hr3 => ?_)
    obtain rfl : r3 = nI (cn bb i) := hr3
    refine lv_iadd hx hb dV_down_14 ?_
    refine lv_topi (fun z4 ez4 => ?_)
    obtain rfl : z4 = nI (dn bb n x i) := by rw [ez4]; rw [hxt, dn_1]; exact nI_add _ _
    refine lv_goto (tgt := 25) hx hb dV_down_15 (by decide) ?_
    exact W.iret (v := (nI (dn bb n x i))) hx hb hr (fun t ht hW => ⟨(nI (dn bb n x i)), rfl, rfl, ht⟩) (fun q h => nomatch h) dV_down_25

set_option maxHeartbeats 4000000 in
set_option maxRecDepth 100000 in
theorem c_V_up (l : Launch) (D : va_G) (cI cO cJ : ClassId) (N : Nat) (ad : Nat → Nat) (ce : Nat → va_E) (k : Nat) (hk : k + 2 < N) (bb : Nat → Bool) (n : Nat) (hV : LV cI ad ce k bb n) (x : Bool) (j0 : Nat) (hj : j0 < n) (hb0 : bb j0 = x) : Met l yV_up (.code yV_up bV_up 5 (some .int) :: WA) ({ frames := 3, cells := 0, slots := 0, locals := 65 }) (PR D (TY cI cO cJ) N ad ce [.ref (ad k), .int (nI (bN x)), .int (nI (dn bb n x j0))]) (vp_Si (fun r => r = nI j0)) 0 0 (fun _ => False) := by
  refine Met.ofW (cc := bV_up) (maxL := 5) (ret := (some .int)) (by decide) rfl ?_
  intro p e s m args below meth c s₁ B hml hv
  obtain ⟨rfl, hP, hK⟩ := hv
  have hx := B.exec
  have hb := B.bytes
  have hr := B.returns
  have hA9 : ∀ w ∈ WA, w.before _ s = true := fun w h => atoms_spec (ws := .code yV_up bV_up 5 (some .int) :: WA) B.pre w (List.mem_cons_of_mem _ h)
  have hown : s.vm.findClass RV = some m.cls := findClass_of_methodNamed B.named
  have hlocks := B.notSynchronized
  have hl := lv_entry ([.ref (ad k), .int (nI (bN x)), .int (nI (dn bb n x j0))]) (n := 5) (Nat.le_of_ble_eq_true rfl)
  rw [lg_entry_eq]
  generalize (lg_sl ([.ref (ad k), .int (nI (bN x)), .int (nI (dn bb n x j0))]) ++ List.replicate (5 - (lg_sl ([.ref (ad k), .int (nI (bN x)), .int (nI (dn bb n x j0))])).length) Slot.unset).toArray = ls at hl ⊢
  have hl : lv_has ls 5 [(0, .ref (ad k)), (1, .int (nI (bN x))), (2, .int (nI (dn bb n x j0)))] := hl
  obtain ⟨w, r, h0, h1, h2, hw, hrk, hn⟩ := id hV
  refine lv_iconst (v := nI 0) hx hb dV_up_0 (by decide +kernel) ?_
  refine lv_istore_n (lv' := [(3, .int (nI 0)), (0, .ref (ad k)), (1, .int (nI (bN x))), (2, .int (nI (dn bb n x j0)))]) hx hb dV_up_1 rfl hl (by decide) rfl (fun ls hl => ?_)
  refine lv_sipush (v := nI 2048) hx hb dV_up_2 (by decide +kernel) ?_
  refine lv_istore (lv' := [(4, .int (nI 2048)), (3, .int (nI 0)), (0, .ref (ad k)), (1, .int (nI (bN x))), (2, .int (nI (dn bb n x j0)))]) hx hb dV_up_5 hl (by decide) rfl (fun ls hl => ?_)
  obtain ⟨a, ha0⟩ : ∃ z : Nat, (0) = z := ⟨_, rfl⟩
  obtain ⟨j, hj0⟩ : ∃ z : Nat, (12) = z := ⟨_, rfl⟩
  replace hl : lv_has ls 5 [(4, .int (nI (2 ^ j / 2))), (3, .int (nI a)), (0, .ref (ad k)), (1, .int (nI (bN x))), (2, .int (nI (dn bb n x j0)))] := by subst ha0 hj0; exact lv_sub hl [0, 1, 2, 3, 4] rfl
  have J : j ≤ 12 ∧ a < n ∧ dn bb n x a ≤ dn bb n x j0 ∧ ∀ t, t < n → a + 2 ^ j ≤ t → dn bb n x j0 < dn bb n x t := by subst ha0 hj0; exact ⟨by omega, by omega, dn_mono _ _ _ (by omega), fun t h1 h2 => absurd h2 (by omega)⟩
  clear ha0
  clear hj0
  obtain ⟨k9, hk9⟩ : ∃ z9 : Nat, z9 = j := ⟨_, rfl⟩
  induction k9 using Nat.strongRecOn generalizing a j ls with
  | ind k9 ih =>
    obtain ⟨j1, j2, j3, j4⟩ := J
    have jp : 2 ^ j ≤ 4096 := Nat.le_trans (Nat.pow_le_pow_right (by omega) j1) (by decide)
    refine lv_iload hx hb dV_up_7 (lv_at hl 0 rfl) ?_
    refine lv_if_le (tgt := 50) hx hb dV_up_9 (by decide) (fun c9 => ?_) (fun c9 => ?_)
    · skip
      have hj0 : j = 0 := by
        rcases Nat.eq_zero_or_pos j with q | q
        · exact q
        · have h1 := Nat.pow_le_pow_right (show 0 < 2 by omega) q
          have h2 := leN (b := 0) c9
          omega
      subst hj0
      have hfin : a = j0 := up_last hb0 j3 (fun t h1 h2 => j4 t h2 (by omega)) hj
      refine lv_iload_n hx hb dV_up_50 rfl (lv_at hl 1 rfl) ?_
      exact W.iret (v := (nI a)) hx hb hr (fun t ht hW => ⟨(nI a), rfl, by rw [hfin], ht⟩) (fun q h => nomatch h) dV_up_51
    · skip
      have hj0 : 0 < j := by
        rcases Nat.eq_zero_or_pos j with q | q
        · subst q; exact absurd (show nI (2 ^ 0 / 2) ≤ 0 by decide +kernel) c9
        · exact q
      obtain ⟨jj, rfl⟩ : ∃ jj, j = jj + 1 := ⟨j - 1, by omega⟩
      have jh := hf2 jj
      have jq : 2 ^ (jj + 1) = 2 * 2 ^ jj := by rw [Nat.pow_succ]; omega
      refine lv_iload_n hx hb dV_up_12 rfl (lv_at hl 1 rfl) ?_
      refine lv_iload hx hb dV_up_13 (lv_at hl 0 rfl) ?_
      refine lv_iadd hx hb dV_up_15 ?_
      refine lv_topi (fun z1 ez1 => ?_)
      obtain rfl : z1 = nI (a + 2 ^ jj) := by rw [ez1]; rw [jh]; exact nI_add _ _
      refine lv_aload_n hx hb dV_up_16 rfl (lv_at hl 2 rfl) ?_
      refine va_get (D := D) (ci := 0) (v := .int (nI n)) (C := RV) (T := TV) (N := 4) hx hb hA9 inV hown hK hP k (wx_at (by omega) h0) rfl 2 (by decide) (hA9 _ mfV_18) (fun _ h9 => h9) rfl dV_up_17 ?_
      refine lv_icmp_ge (tgt := 41) hx hb dV_up_20 (by decide) (fun c20 => ?_) (fun c20 => ?_)
      · skip
        have d1 := leN c20
        refine lv_iload hx hb dV_up_41 (lv_at hl 0 rfl) ?_
        refine lv_iconst (v := nI 2) hx hb dV_up_43 (by decide +kernel) ?_
        refine lv_idiv hx hb dV_up_44 (by decide +kernel) ?_
        refine lv_topi (fun z2 ez2 => ?_)
        obtain rfl : z2 = nI (2 ^ jj / 2) := by rw [ez2]; rw [jh]; exact pk_div (by omega) (by omega) (by omega)
        refine lv_istore (lv' := [(4, .int (nI (2 ^ jj / 2))), (3, .int (nI a)), (0, .ref (ad k)), (1, .int (nI (bN x))), (2, .int (nI (dn bb n x j0)))]) hx hb dV_up_45 hl (by decide) rfl (fun ls hl => ?_)
        refine lv_goto (tgt := 7) hx hb dV_up_47 (by decide) ?_
        
        exact ih _ (by omega) (ls := ls) (a := a) (j := jj) (lv_sub hl [0, 1, 2, 3, 4] rfl) (⟨by omega, by omega, j3, fun t h1 h2 => by omega⟩) rfl
      · skip
        have d1 := nleN c20
        refine lv_aload_n hx hb dV_up_23 rfl (lv_at hl 2 rfl) ?_
        refine lv_iload_n hx hb dV_up_24 rfl (lv_at hl 3 rfl) ?_
        refine lv_iload_n hx hb dV_up_25 rfl (lv_at hl 1 rfl) ?_
        refine lv_iload hx hb dV_up_26 (lv_at hl 0 rfl) ?_
        refine lv_iadd hx hb dV_up_28 ?_
        refine lv_topi (fun z3 ez3 => ?_)
        obtain rfl : z3 = nI (a + 2 ^ jj) := by rw [ez3]; rw [jh]; exact nI_add _ _
        have b1 := dn_le bb x (show a + 2 ^ jj ≤ n by omega)
        have b2 := dn_le bb x (show j0 ≤ n by omega)
        refine vp_callSi (va_runV (As := [.int (nI (bN x)), .int (nI (a + 2 ^ jj))]) (rest := []) ⟨hx, hb, hml, hown, hA9⟩ (c_V_down l D cI cO cJ N ad ce k hk bb n hV x (a + 2 ^ jj) (by omega)) (cwV 2 hA9 (gV mlV_40 miV_down msV_down mn_V mkV_down) rfl rfl rfl (by decide +kernel) ⟨Nat.le_of_ble_eq_true rfl, Nat.le_of_ble_eq_true rfl⟩) ⟨PR_bl, wx_recv hK hP (by omega) h0 rfl, PR_mk hK hP⟩ rfl rfl hl.1 rfl (lv_room (Nat.le_of_ble_eq_true rfl)) dV_up_29 ⟨Nat.le_of_ble_eq_true rfl, Nat.le_of_ble_eq_true rfl⟩).run (fun r4 hr4 => ?_)
        obtain rfl : r4 = nI (dn bb n x (a + 2 ^ jj)) := hr4
        refine lv_iload_n hx hb dV_up_32 rfl (lv_at hl 4 rfl) ?_
        refine lv_icmp_gt (tgt := 41) hx hb dV_up_33 (by decide) (fun c33 => ?_) (fun c33 => ?_)
        · skip
          have d2 := ltN c33
          refine lv_iload hx hb dV_up_41 (lv_at hl 0 rfl) ?_
          refine lv_iconst (v := nI 2) hx hb dV_up_43 (by decide +kernel) ?_
          refine lv_idiv hx hb dV_up_44 (by decide +kernel) ?_
          refine lv_topi (fun z5 ez5 => ?_)
          obtain rfl : z5 = nI (2 ^ jj / 2) := by rw [ez5]; rw [jh]; exact pk_div (by omega) (by omega) (by omega)
          refine lv_istore (lv' := [(4, .int (nI (2 ^ jj / 2))), (3, .int (nI a)), (0, .ref (ad k)), (1, .int (nI (bN x))), (2, .int (nI (dn bb n x j0)))]) hx hb dV_up_45 hl (by decide) rfl (fun ls hl => ?_)
          refine lv_goto (tgt := 7) hx hb dV_up_47 (by decide) ?_
          
          exact ih _ (by omega) (ls := ls) (a := a) (j := jj) (lv_sub hl [0, 1, 2, 3, 4] rfl) (⟨by omega, by omega, j3, fun t h1 h2 => by have := dn_mono bb n x h2; omega⟩) rfl
        · skip
          have d2 := nltN c33
          refine lv_iload_n hx hb dV_up_36 rfl (lv_at hl 1 rfl) ?_
          refine lv_iload hx hb dV_up_37 (lv_at hl 0 rfl) ?_
          refine lv_iadd hx hb dV_up_39 ?_
          refine lv_topi (fun z6 ez6 => ?_)
          obtain rfl : z6 = nI (a + 2 ^ jj) := by rw [ez6]; rw [jh]; exact nI_add _ _
          refine lv_istore_n (lv' := [(3, .int (nI (a + 2 ^ jj))), (4, .int (nI (2 ^ (jj + 1) / 2))), (0, .ref (ad k)), (1, .int (nI (bN x))), (2, .int (nI (dn bb n x j0)))]) hx hb dV_up_40 rfl hl (by decide) rfl (fun ls hl => ?_)
          refine lv_iload hx hb dV_up_41 (lv_at hl 1 rfl) ?_
          refine lv_iconst (v := nI 2) hx hb dV_up_43 (by decide +kernel) ?_
          refine lv_idiv hx hb dV_up_44 (by decide +kernel) ?_
          refine lv_topi (fun z7 ez7 => ?_)
          obtain rfl : z7 = nI (2 ^ jj / 2) := by rw [ez7]; rw [jh]; exact pk_div (by omega) (by omega) (by omega)
          refine lv_istore (lv' := [(4, .int (nI (2 ^ jj / 2))), (3, .int (nI (a + 2 ^ jj))), (0, .ref (ad k)), (1, .int (nI (bN x))), (2, .int (nI (dn bb n x j0)))]) hx hb dV_up_45 hl (by decide) rfl (fun ls hl => ?_)
          refine lv_goto (tgt := 7) hx hb dV_up_47 (by decide) ?_
          
          exact ih _ (by omega) (ls := ls) (a := a + 2 ^ jj) (j := jj) (lv_sub hl [0, 1, 2, 3, 4] rfl) (⟨by omega, by omega, d2, fun t h1 h2 => j4 t h1 (by omega)⟩) rfl
end
section
set_option maxHeartbeats 4000000 in
set_option maxRecDepth 100000 in
theorem c_T_shiftOf (l : Launch) (d : Nat) (hd : d ≤ 8) : Met l yT_shiftOf (.code yT_shiftOf bT_shiftOf 1 (some .int) :: WA) ({ frames := 0, cells := 0, slots := 0, locals := 0 }) (P0 [.int (nI d)]) (vp_Si (fun r => r = nI (8 - d))) 0 0 (fun _ => False) := by
  refine Met.ofW (cc := bT_shiftOf) (maxL := 1) (ret := (some .int)) (by decide) rfl ?_
  intro p e s m args below meth c s₁ B hml hv
  obtain ⟨rfl, -⟩ := hv
  have hx := B.exec
  have hb := B.bytes
  have hr := B.returns
  have hA9 : ∀ w ∈ WA, w.before _ s = true := fun w h => atoms_spec (ws := .code yT_shiftOf bT_shiftOf 1 (some .int) :: WA) B.pre w (List.mem_cons_of_mem _ h)
  have hown : s.vm.findClass RT = some m.cls := findClass_of_methodNamed B.named
  have hlocks := B.notSynchronized
  have hl := lv_entry ([.int (nI d)]) (n := 1) (Nat.le_of_ble_eq_true rfl)
  rw [lg_entry_eq]
  generalize (lg_sl ([.int (nI d)]) ++ List.replicate (1 - (lg_sl ([.int (nI d)])).length) Slot.unset).toArray = ls at hl ⊢
  have hl : lv_has ls 1 [(0, .int (nI d))] := hl
  refine lv_bipush (v := nI 8) hx hb dT_shiftOf_0 (by decide +kernel) ?_
  refine lv_iload_n hx hb dT_shiftOf_2 rfl (lv_at hl 0 rfl) ?_
  refine lv_isub hx hb dT_shiftOf_3 ?_
  refine lv_topi (fun z1 ez1 => ?_)
  obtain rfl : z1 = nI (8 - d) := by rw [ez1]; exact pk_sub (by omega)
  exact W.iret (v := (nI (8 - d))) hx hb hr (fun t ht hW => ⟨(nI (8 - d)), rfl, rfl, ht⟩) (fun q h => nomatch h) dT_shiftOf_4

set_option maxHeartbeats 4000000 in
set_option maxRecDepth 100000 in
theorem c_L_numberOf (l : Launch) (g : Nat) (hg : g < 2147483648) : Met l yL_numberOf (.code yL_numberOf bL_numberOf 1 (some .int) :: WA) ({ frames := 0, cells := 0, slots := 0, locals := 0 }) (P0 [.int (nI g)]) (vp_Si (fun r => r = nI (g / 4096))) 0 0 (fun _ => False) := by
  refine Met.ofW (cc := bL_numberOf) (maxL := 1) (ret := (some .int)) (by decide) rfl ?_
  intro p e s m args below meth c s₁ B hml hv
  obtain ⟨rfl, -⟩ := hv
  have hx := B.exec
  have hb := B.bytes
  have hr := B.returns
  have hA9 : ∀ w ∈ WA, w.before _ s = true := fun w h => atoms_spec (ws := .code yL_numberOf bL_numberOf 1 (some .int) :: WA) B.pre w (List.mem_cons_of_mem _ h)
  have hown : s.vm.findClass RL = some m.cls := findClass_of_methodNamed B.named
  have hlocks := B.notSynchronized
  have hl := lv_entry ([.int (nI g)]) (n := 1) (Nat.le_of_ble_eq_true rfl)
  rw [lg_entry_eq]
  generalize (lg_sl ([.int (nI g)]) ++ List.replicate (1 - (lg_sl ([.int (nI g)])).length) Slot.unset).toArray = ls at hl ⊢
  have hl : lv_has ls 1 [(0, .int (nI g))] := hl
  refine lv_iload_n hx hb dL_numberOf_0 rfl (lv_at hl 0 rfl) ?_
  refine lv_sipush (v := nI 4096) hx hb dL_numberOf_1 (by decide +kernel) ?_
  refine lv_idiv hx hb dL_numberOf_4 (by decide +kernel) ?_
  refine lv_topi (fun z1 ez1 => ?_)
  obtain rfl : z1 = nI (g / 4096) := by rw [ez1]; exact pk_div hg (by omega) (by omega)
  exact W.iret (v := (nI (g / 4096))) hx hb hr (fun t ht hW => ⟨(nI (g / 4096)), rfl, rfl, ht⟩) (fun q h => nomatch h) dL_numberOf_5

set_option maxHeartbeats 4000000 in
set_option maxRecDepth 100000 in
theorem c_L_timesIn (l : Launch) (g : Nat) (hg : g < 2147483648) : Met l yL_timesIn (.code yL_timesIn bL_timesIn 1 (some .int) :: WA) ({ frames := 0, cells := 0, slots := 0, locals := 0 }) (P0 [.int (nI g)]) (vp_Si (fun r => r = nI (g % 4096))) 0 0 (fun _ => False) := by
  refine Met.ofW (cc := bL_timesIn) (maxL := 1) (ret := (some .int)) (by decide) rfl ?_
  intro p e s m args below meth c s₁ B hml hv
  obtain ⟨rfl, -⟩ := hv
  have hx := B.exec
  have hb := B.bytes
  have hr := B.returns
  have hA9 : ∀ w ∈ WA, w.before _ s = true := fun w h => atoms_spec (ws := .code yL_timesIn bL_timesIn 1 (some .int) :: WA) B.pre w (List.mem_cons_of_mem _ h)
  have hown : s.vm.findClass RL = some m.cls := findClass_of_methodNamed B.named
  have hlocks := B.notSynchronized
  have hl := lv_entry ([.int (nI g)]) (n := 1) (Nat.le_of_ble_eq_true rfl)
  rw [lg_entry_eq]
  generalize (lg_sl ([.int (nI g)]) ++ List.replicate (1 - (lg_sl ([.int (nI g)])).length) Slot.unset).toArray = ls at hl ⊢
  have hl : lv_has ls 1 [(0, .int (nI g))] := hl
  refine lv_iload_n hx hb dL_timesIn_0 rfl (lv_at hl 0 rfl) ?_
  refine lv_sipush (v := nI 4096) hx hb dL_timesIn_1 (by decide +kernel) ?_
  refine lv_irem hx hb dL_timesIn_4 (by decide +kernel) ?_
  refine lv_topi (fun z1 ez1 => ?_)
  obtain rfl : z1 = nI (g % 4096) := by rw [ez1]; exact pk_rem hg (by omega) (by omega)
  exact W.iret (v := (nI (g % 4096))) hx hb hr (fun t ht hW => ⟨(nI (g % 4096)), rfl, rfl, ht⟩) (fun q h => nomatch h) dL_timesIn_5

set_option maxHeartbeats 4000000 in
set_option maxRecDepth 100000 in
theorem c_T_size (l : Launch) (D : va_G) (cI cO cJ : ClassId) (N : Nat) (ad : Nat → Nat) (ce : Nat → va_E) (hN : 33 ≤ N) (os : Nat → Nat → Nat) (n : Nat) (hT : TR cI cO ad ce os n)  : Met l yT_size (.code yT_size bT_size 1 (some .int) :: WA) ({ frames := 0, cells := 0, slots := 0, locals := 0 }) (PR D (TY cI cO cJ) N ad ce [.ref (ad 2)]) (vp_Si (fun r => r = nI n)) 0 0 (fun _ => False) := by
  refine Met.ofW (cc := bT_size) (maxL := 1) (ret := (some .int)) (by decide) rfl ?_
  intro p e s m args below meth c s₁ B hml hv
  obtain ⟨rfl, hP, hK⟩ := hv
  have hx := B.exec
  have hb := B.bytes
  have hr := B.returns
  have hA9 : ∀ w ∈ WA, w.before _ s = true := fun w h => atoms_spec (ws := .code yT_size bT_size 1 (some .int) :: WA) B.pre w (List.mem_cons_of_mem _ h)
  have hown : s.vm.findClass RT = some m.cls := findClass_of_methodNamed B.named
  have hlocks := B.notSynchronized
  have hl := lv_entry ([.ref (ad 2)]) (n := 1) (Nat.le_of_ble_eq_true rfl)
  rw [lg_entry_eq]
  generalize (lg_sl ([.ref (ad 2)]) ++ List.replicate (1 - (lg_sl ([.ref (ad 2)])).length) Slot.unset).toArray = ls at hl ⊢
  have hl : lv_has ls 1 [(0, .ref (ad 2))] := hl
  obtain ⟨t2, ⟨lv, t3, tlv⟩, tL, hn⟩ := id hT
  refine lv_aload_n hx hb dT_size_0 rfl (lv_at hl 0 rfl) ?_
  refine va_get (D := D) (ci := 1) (v := .int (nI n)) (C := RT) (T := TT) (N := 4) hx hb hA9 inT hown hK hP 2 (wx_at (by omega) t2) rfl 3 (by decide) (hA9 _ mfT_25) (fun _ h9 => h9) rfl dT_size_1 ?_
  exact W.iret (v := (nI n)) hx hb hr (fun t ht hW => ⟨(nI n), rfl, rfl, ht⟩) (fun q h => nomatch h) dT_size_4

set_option maxHeartbeats 4000000 in
set_option maxRecDepth 100000 in
theorem c_T_bottomOf (l : Launch) (D : va_G) (cI cO cJ : ClassId) (N : Nat) (ad : Nat → Nat) (ce : Nat → va_E) (hN : 33 ≤ N) (os : Nat → Nat → Nat) (n : Nat) (hT : TR cI cO ad ce os n) (x : Nat) (hx5 : x < 512) (i : Nat) (hi : i ≤ n) : Met l yT_bottomOf (.code yT_bottomOf bT_bottomOf 5 (some .int) :: WA) ({ frames := 3, cells := 0, slots := 0, locals := 65 }) (PR D (TY cI cO cJ) N ad ce [.ref (ad 2), .int (nI x), .int (nI i)]) (vp_Si (fun r => r = nI (pq os n 9 x i))) 0 0 (fun _ => False) := by
  refine Met.ofW (cc := bT_bottomOf) (maxL := 5) (ret := (some .int)) (by decide) rfl ?_
  intro p e s m args below meth c s₁ B hml hv
  obtain ⟨rfl, hP, hK⟩ := hv
  have hx := B.exec
  have hb := B.bytes
  have hr := B.returns
  have hA9 : ∀ w ∈ WA, w.before _ s = true := fun w h => atoms_spec (ws := .code yT_bottomOf bT_bottomOf 5 (some .int) :: WA) B.pre w (List.mem_cons_of_mem _ h)
  have hown : s.vm.findClass RT = some m.cls := findClass_of_methodNamed B.named
  have hlocks := B.notSynchronized
  have hl := lv_entry ([.ref (ad 2), .int (nI x), .int (nI i)]) (n := 5) (Nat.le_of_ble_eq_true rfl)
  rw [lg_entry_eq]
  generalize (lg_sl ([.ref (ad 2), .int (nI x), .int (nI i)]) ++ List.replicate (5 - (lg_sl ([.ref (ad 2), .int (nI x), .int (nI i)])).length) Slot.unset).toArray = ls at hl ⊢
  have hl : lv_has ls 5 [(0, .ref (ad 2)), (1, .int (nI x)), (2, .int (nI i))] := hl
  obtain ⟨t2, ⟨lv, t3, tlv⟩, tL, hn⟩ := id hT
  refine lv_iload_n hx hb dT_bottomOf_0 rfl (lv_at hl 2 rfl) ?_
  refine lv_istore_n (lv' := [(3, .int (nI i)), (0, .ref (ad 2)), (1, .int (nI x)), (2, .int (nI i))]) hx hb dT_bottomOf_1 rfl hl (by decide) rfl (fun ls hl => ?_)
  refine lv_iconst (v := nI 0) hx hb dT_bottomOf_2 (by decide +kernel) ?_
  refine lv_istore (lv' := [(4, .int (nI 0)), (3, .int (nI i)), (0, .ref (ad 2)), (1, .int (nI x)), (2, .int (nI i))]) hx hb dT_bottomOf_3 hl (by decide) rfl (fun ls hl => ?_)
  obtain ⟨d, hd0⟩ : ∃ z : Nat, (0) = z := ⟨_, rfl⟩
  replace hl : lv_has ls 5 [(4, .int (nI d)), (3, .int (nI (pq os n d (tp d x) i))), (0, .ref (ad 2)), (1, .int (nI x)), (2, .int (nI i))] := by subst hd0; exact lv_sub hl [0, 1, 2, 3, 4] rfl
  have J : d ≤ 9 := by subst hd0; omega
  clear hd0
  obtain ⟨k9, hk9⟩ : ∃ z9 : Nat, z9 = 9 - d := ⟨_, rfl⟩
  induction k9 using Nat.strongRecOn generalizing d ls with
  | ind k9 ih =>
    refine lv_iload hx hb dT_bottomOf_5 (lv_at hl 0 rfl) ?_
    refine lv_bipush (v := nI 9) hx hb dT_bottomOf_7 (by decide +kernel) ?_
    refine lv_icmp_ge (tgt := 39) hx hb dT_bottomOf_9 (by decide) (fun c9 => ?_) (fun c9 => ?_)
    · skip
      have d1 := leN c9
      have hd9 : d = 9 := by omega
      refine lv_iload_n hx hb dT_bottomOf_39 rfl (lv_at hl 1 rfl) ?_
      exact W.iret (v := (nI (pq os n d (tp d x) i))) hx hb hr (fun t ht hW => ⟨(nI (pq os n d (tp d x) i)), rfl, by rw [hd9, tp_9], ht⟩) (fun q h => nomatch h) dT_bottomOf_40
    · skip
      have d1 := nleN c9
      refine lv_aload_n hx hb dT_bottomOf_12 rfl (lv_at hl 2 rfl) ?_
      refine va_get (D := D) (ci := 1) (v := .ref (ad 3)) (C := RT) (T := TT) (N := 4) hx hb hA9 inT hown hK hP 2 (wx_at (by omega) t2) rfl 0 (by decide) (hA9 _ mfT_11) (fun _ h9 => h9) rfl dT_bottomOf_13 ?_
      refine lv_iload hx hb dT_bottomOf_16 (lv_at hl 0 rfl) ?_
      refine va_aldq (C := RV) hx hb hK hP 3 1 (wx_at (by omega) t3) rfl (inN) dT_bottomOf_18 ?_
      refine W.eq (g2 := F0 m 19 ls [.ref (ad (6 + 3 * d))]) (by rw [clN, tlv d (by omega)]; rfl) ?_
      refine lv_iload_n hx hb dT_bottomOf_19 rfl (lv_at hl 3 rfl) ?_
      refine lv_iload hx hb dT_bottomOf_20 (lv_at hl 0 rfl) ?_
      refine vp_callSi (va_runS (As := [.int (nI d)]) (rest := [.int (nI x), .ref (ad (6 + 3 * d))]) ⟨hx, hb, hml, hown, hA9⟩ (c_T_shiftOf l d (by omega)) (va_cwS 1 hA9 (gS mlT_35 mtT_shiftOf mn_T mkT_shiftOf) rfl rfl rfl (by decide +kernel) ⟨Nat.le_of_ble_eq_true rfl, Nat.le_of_ble_eq_true rfl⟩) ⟨P0_bl, P0_mk⟩ rfl rfl hl.1 rfl (lv_room (Nat.le_of_ble_eq_true rfl)) dT_bottomOf_22 ⟨Nat.le_of_ble_eq_true rfl, Nat.le_of_ble_eq_true rfl⟩).run (fun r1 hr1 => ?_)
      obtain rfl : r1 = nI (8 - d) := hr1
      refine lv_ishr hx hb dT_bottomOf_25 ?_
      refine lv_iconst (v := nI 1) hx hb dT_bottomOf_26 (by decide +kernel) ?_
      refine lv_iand hx hb dT_bottomOf_27 ?_
      refine lv_topi (fun z2 ez2 => ?_)
      obtain rfl : z2 = nI (bN (tb x (8 - d))) := by rw [ez2]; exact sh1 (by omega) (by omega)
      refine lv_iload_n hx hb dT_bottomOf_28 rfl (lv_at hl 1 rfl) ?_
      refine vp_callSi (va_runV (As := [.int (nI (bN (tb x (8 - d)))), .int (nI (pq os n d (tp d x) i))]) (rest := []) ⟨hx, hb, hml, hown, hA9⟩ (c_V_down l D cI cO cJ N ad ce (6 + 3 * d) (by omega) (bs os n d) n (tL d (by omega)) (tb x (8 - d)) (pq os n d (tp d x) i) (pq_le os d _ hi)) (cwV 2 hA9 (gV mlT_50 miV_down msV_down mn_V mkV_down) rfl rfl rfl (by decide +kernel) ⟨Nat.le_of_ble_eq_true rfl, Nat.le_of_ble_eq_true rfl⟩) ⟨PR_bl, wx_recv hK hP (by omega) (tL d (by omega)).o rfl, PR_mk hK hP⟩ rfl rfl hl.1 rfl (lv_room (Nat.le_of_ble_eq_true rfl)) dT_bottomOf_29 ⟨Nat.le_of_ble_eq_true rfl, Nat.le_of_ble_eq_true rfl⟩).run (fun r3 hr3 => ?_)
      obtain rfl : r3 = nI (pq os n (d + 1) (tp (d + 1) x) i) := hr3.trans (by rw [pq_x (by omega)])
      refine lv_istore_n (lv' := [(3, .int (nI (pq os n (d + 1) (tp (d + 1) x) i))), (4, .int (nI d)), (0, .ref (ad 2)), (1, .int (nI x)), (2, .int (nI i))]) hx hb dT_bottomOf_32 rfl hl (by decide) rfl (fun ls hl => ?_)
      refine lv_iinc (v := nI (d + 1)) (lv' := [(4, .int (nI (d + 1))), (3, .int (nI (pq os n (d + 1) (tp (d + 1) x) i))), (0, .ref (ad 2)), (1, .int (nI x)), (2, .int (nI i))]) hx hb dT_bottomOf_33 hl (k := 1) rfl (nI_1 d) (by decide) rfl (fun ls hl => ?_)
      refine lv_goto (tgt := 5) hx hb dT_bottomOf_36 (by decide) ?_
      exact ih _ (by omega) (ls := ls) (d := d + 1) (lv_sub hl [0, 1, 2, 3, 4] rfl) (by omega) rfl

set_option maxHeartbeats 4000000 in
set_option maxRecDepth 100000 in
theorem c_T_timesOf (l : Launch) (D : va_G) (cI cO cJ : ClassId) (N : Nat) (ad : Nat → Nat) (ce : Nat → va_E) (hN : 33 ≤ N) (os : Nat → Nat → Nat) (n : Nat) (hT : TR cI cO ad ce os n) (f : Nat → Nat) (hW : WM f n os) (hf : ∀ i, i < n → f i < 512) (x : Nat) (hx5 : x < 512) (u v : Nat) (huv : u ≤ v) (hv : v ≤ n) : Met l yT_timesOf (.code yT_timesOf bT_timesOf 4 (some .int) :: WA) ({ frames := 4, cells := 0, slots := 0, locals := 89 }) (PR D (TY cI cO cJ) N ad ce [.ref (ad 2), .int (nI x), .int (nI u), .int (nI v)]) (vp_Si (fun r => r = nI (eq f x u v))) 0 0 (fun _ => False) := by
  refine Met.ofW (cc := bT_timesOf) (maxL := 4) (ret := (some .int)) (by decide) rfl ?_
  intro p e s m args below meth c s₁ B hml hv
  obtain ⟨rfl, hP, hK⟩ := hv
  have hx := B.exec
  have hb := B.bytes
  have hr := B.returns
  have hA9 : ∀ w ∈ WA, w.before _ s = true := fun w h => atoms_spec (ws := .code yT_timesOf bT_timesOf 4 (some .int) :: WA) B.pre w (List.mem_cons_of_mem _ h)
  have hown : s.vm.findClass RT = some m.cls := findClass_of_methodNamed B.named
  have hlocks := B.notSynchronized
  have hl := lv_entry ([.ref (ad 2), .int (nI x), .int (nI u), .int (nI v)]) (n := 4) (Nat.le_of_ble_eq_true rfl)
  rw [lg_entry_eq]
  generalize (lg_sl ([.ref (ad 2), .int (nI x), .int (nI u), .int (nI v)]) ++ List.replicate (4 - (lg_sl ([.ref (ad 2), .int (nI x), .int (nI u), .int (nI v)])).length) Slot.unset).toArray = ls at hl ⊢
  have hl : lv_has ls 4 [(0, .ref (ad 2)), (1, .int (nI x)), (2, .int (nI u)), (3, .int (nI v))] := hl
  obtain ⟨t2, ⟨lv, t3, tlv⟩, tL, hn⟩ := id hT
  refine lv_aload_n hx hb dT_timesOf_0 rfl (lv_at hl 0 rfl) ?_
  refine lv_iload_n hx hb dT_timesOf_1 rfl (lv_at hl 1 rfl) ?_
  refine lv_iload_n hx hb dT_timesOf_2 rfl (lv_at hl 3 rfl) ?_
  refine vp_callSi (va_runV (As := [.int (nI x), .int (nI v)]) (rest := []) ⟨hx, hb, hml, hown, hA9⟩ (c_T_bottomOf l D cI cO cJ N ad ce hN os n hT x hx5 v (hv)) (cwV 2 hA9 (gV mlT_54 miT_bottomOf msT_bottomOf mn_T mkT_bottomOf) rfl rfl rfl (by decide +kernel) ⟨Nat.le_of_ble_eq_true rfl, Nat.le_of_ble_eq_true rfl⟩) ⟨PR_bl, wx_recv hK hP (by omega) t2 rfl, PR_mk hK hP⟩ rfl rfl hl.1 rfl (lv_room (Nat.le_of_ble_eq_true rfl)) dT_timesOf_3 ⟨Nat.le_of_ble_eq_true rfl, Nat.le_of_ble_eq_true rfl⟩).run (fun r1 hr1 => ?_)
  obtain rfl : r1 = nI (pq os n 9 x v) := hr1
  refine lv_aload_n hx hb dT_timesOf_6 rfl (lv_at hl 0 rfl) ?_
  refine lv_iload_n hx hb dT_timesOf_7 rfl (lv_at hl 1 rfl) ?_
  refine lv_iload_n hx hb dT_timesOf_8 rfl (lv_at hl 2 rfl) ?_
  refine vp_callSi (va_runV (As := [.int (nI x), .int (nI u)]) (rest := [.int (nI (pq os n 9 x v))]) ⟨hx, hb, hml, hown, hA9⟩ (c_T_bottomOf l D cI cO cJ N ad ce hN os n hT x hx5 u (by omega)) (cwV 2 hA9 (gV mlT_54 miT_bottomOf msT_bottomOf mn_T mkT_bottomOf) rfl rfl rfl (by decide +kernel) ⟨Nat.le_of_ble_eq_true rfl, Nat.le_of_ble_eq_true rfl⟩) ⟨PR_bl, wx_recv hK hP (by omega) t2 rfl, PR_mk hK hP⟩ rfl rfl hl.1 rfl (lv_room (Nat.le_of_ble_eq_true rfl)) dT_timesOf_9 ⟨Nat.le_of_ble_eq_true rfl, Nat.le_of_ble_eq_true rfl⟩).run (fun r2 hr2 => ?_)
  obtain rfl : r2 = nI (pq os n 9 x u) := hr2
  refine lv_isub hx hb dT_timesOf_12 ?_
  refine lv_topi (fun z3 ez3 => ?_)
  obtain rfl : z3 = nI (eq f x u v) := by rw [ez3]; rw [pk_sub (pq_mono _ _ _ _ huv), pq_9 hW hf hx5 huv hv]
  exact W.iret (v := (nI (eq f x u v))) hx hb hr (fun t ht hW => ⟨(nI (eq f x u v)), rfl, rfl, ht⟩) (fun q h => nomatch h) dT_timesOf_13

set_option maxHeartbeats 4000000 in
set_option maxRecDepth 100000 in
theorem c_T_numberAt (l : Launch) (D : va_G) (cI cO cJ : ClassId) (N : Nat) (ad : Nat → Nat) (ce : Nat → va_E) (hN : 33 ≤ N) (os : Nat → Nat → Nat) (n : Nat) (hT : TR cI cO ad ce os n) (f : Nat → Nat) (hW : WM f n os) (hf : ∀ i, i < n → f i < 512) (i : Nat) (hi : i < n) : Met l yT_numberAt (.code yT_numberAt bT_numberAt 6 (some .int) :: WA) ({ frames := 3, cells := 0, slots := 0, locals := 65 }) (PR D (TY cI cO cJ) N ad ce [.ref (ad 2), .int (nI i)]) (vp_Si (fun r => r = nI (f i))) 0 0 (fun _ => False) := by
  refine Met.ofW (cc := bT_numberAt) (maxL := 6) (ret := (some .int)) (by decide) rfl ?_
  intro p e s m args below meth c s₁ B hml hv
  obtain ⟨rfl, hP, hK⟩ := hv
  have hx := B.exec
  have hb := B.bytes
  have hr := B.returns
  have hA9 : ∀ w ∈ WA, w.before _ s = true := fun w h => atoms_spec (ws := .code yT_numberAt bT_numberAt 6 (some .int) :: WA) B.pre w (List.mem_cons_of_mem _ h)
  have hown : s.vm.findClass RT = some m.cls := findClass_of_methodNamed B.named
  have hlocks := B.notSynchronized
  have hl := lv_entry ([.ref (ad 2), .int (nI i)]) (n := 6) (Nat.le_of_ble_eq_true rfl)
  rw [lg_entry_eq]
  generalize (lg_sl ([.ref (ad 2), .int (nI i)]) ++ List.replicate (6 - (lg_sl ([.ref (ad 2), .int (nI i)])).length) Slot.unset).toArray = ls at hl ⊢
  have hl : lv_has ls 6 [(0, .ref (ad 2)), (1, .int (nI i))] := hl
  obtain ⟨t2, ⟨lv, t3, tlv⟩, tL, hn⟩ := id hT
  refine lv_iconst (v := nI 0) hx hb dT_numberAt_0 (by decide +kernel) ?_
  refine lv_istore_n (lv' := [(2, .int (nI 0)), (0, .ref (ad 2)), (1, .int (nI i))]) hx hb dT_numberAt_1 rfl hl (by decide) rfl (fun ls hl => ?_)
  refine lv_iload_n hx hb dT_numberAt_2 rfl (lv_at hl 2 rfl) ?_
  refine lv_istore_n (lv' := [(3, .int (nI i)), (2, .int (nI 0)), (0, .ref (ad 2)), (1, .int (nI i))]) hx hb dT_numberAt_3 rfl hl (by decide) rfl (fun ls hl => ?_)
  refine lv_iconst (v := nI 0) hx hb dT_numberAt_4 (by decide +kernel) ?_
  refine lv_istore (lv' := [(4, .int (nI 0)), (3, .int (nI i)), (2, .int (nI 0)), (0, .ref (ad 2)), (1, .int (nI i))]) hx hb dT_numberAt_5 hl (by decide) rfl (fun ls hl => ?_)
  obtain ⟨d, hd0⟩ : ∃ z : Nat, (0) = z := ⟨_, rfl⟩
  replace hl : lv_has ls 6 [(4, .int (nI d)), (3, .int (nI (pq os n d (tp d (f i)) i))), (2, .int (nI (tp d (f i)))), (0, .ref (ad 2)), (1, .int (nI i))] := by subst hd0; rw [tp_0 (hf i hi)]; exact lv_sub hl [0, 1, 2, 3, 4] rfl
  have J : d ≤ 9 := by subst hd0; omega
  clear hd0
  obtain ⟨k9, hk9⟩ : ∃ z9 : Nat, z9 = 9 - d := ⟨_, rfl⟩
  induction k9 using Nat.strongRecOn generalizing d ls with
  | ind k9 ih =>
    refine lv_iload hx hb dT_numberAt_7 (lv_at hl 0 rfl) ?_
    refine lv_bipush (v := nI 9) hx hb dT_numberAt_9 (by decide +kernel) ?_
    refine lv_icmp_ge (tgt := 54) hx hb dT_numberAt_11 (by decide) (fun c11 => ?_) (fun c11 => ?_)
    · skip
      have d1 := leN c11
      have hd9 : d = 9 := by omega
      refine lv_iload_n hx hb dT_numberAt_54 rfl (lv_at hl 2 rfl) ?_
      exact W.iret (v := (nI (tp d (f i)))) hx hb hr (fun t ht hW => ⟨(nI (tp d (f i))), rfl, by rw [hd9, tp_9], ht⟩) (fun q h => nomatch h) dT_numberAt_55
    · skip
      have d1 := nleN c11
      obtain ⟨ba, bb⟩ := bs_at hW hf (show d ≤ 9 by omega) hi
      refine lv_aload_n hx hb dT_numberAt_14 rfl (lv_at hl 3 rfl) ?_
      refine va_get (D := D) (ci := 1) (v := .ref (ad 3)) (C := RT) (T := TT) (N := 4) hx hb hA9 inT hown hK hP 2 (wx_at (by omega) t2) rfl 0 (by decide) (hA9 _ mfT_11) (fun _ h9 => h9) rfl dT_numberAt_15 ?_
      refine lv_iload hx hb dT_numberAt_18 (lv_at hl 0 rfl) ?_
      refine va_aldq (C := RV) hx hb hK hP 3 1 (wx_at (by omega) t3) rfl (inN) dT_numberAt_20 ?_
      refine W.eq (g2 := F0 m 21 ls [.ref (ad (6 + 3 * d))]) (by rw [clN, tlv d (by omega)]; rfl) ?_
      refine lv_iload_n hx hb dT_numberAt_21 rfl (lv_at hl 1 rfl) ?_
      refine vp_callSi (va_runV (As := [.int (nI (pq os n d (tp d (f i)) i))]) (rest := []) ⟨hx, hb, hml, hown, hA9⟩ (c_V_bitAt l D cI cO cJ N ad ce (6 + 3 * d) (by omega) (bs os n d) n (tL d (by omega)) (pq os n d (tp d (f i)) i) ba) (cwV 1 hA9 (gV mlT_47 miV_bitAt msV_bitAt mn_V mkV_bitAt) rfl rfl rfl (by decide +kernel) ⟨Nat.le_of_ble_eq_true rfl, Nat.le_of_ble_eq_true rfl⟩) ⟨PR_bl, wx_recv hK hP (by omega) (tL d (by omega)).o rfl, PR_mk hK hP⟩ rfl rfl hl.1 rfl (lv_room (Nat.le_of_ble_eq_true rfl)) dT_numberAt_22 ⟨Nat.le_of_ble_eq_true rfl, Nat.le_of_ble_eq_true rfl⟩).run (fun r1 hr1 => ?_)
      obtain rfl : r1 = nI (bN (tb (f i) (8 - d))) := hr1.trans (by rw [bb])
      refine lv_istore (lv' := [(5, .int (nI (bN (tb (f i) (8 - d))))), (4, .int (nI d)), (3, .int (nI (pq os n d (tp d (f i)) i))), (2, .int (nI (tp d (f i)))), (0, .ref (ad 2)), (1, .int (nI i))]) hx hb dT_numberAt_25 hl (by decide) rfl (fun ls hl => ?_)
      refine lv_iload_n hx hb dT_numberAt_27 rfl (lv_at hl 3 rfl) ?_
      refine lv_iconst (v := nI 2) hx hb dT_numberAt_28 (by decide +kernel) ?_
      refine lv_imul hx hb dT_numberAt_29 ?_
      refine lv_iload hx hb dT_numberAt_30 (lv_at hl 0 rfl) ?_
      refine lv_iadd hx hb dT_numberAt_32 ?_
      refine lv_topi (fun z2 ez2 => ?_)
      obtain rfl : z2 = nI (tp (d + 1) (f i)) := by rw [ez2]; rw [pk_mul, nI_add, tp_s (by omega), Nat.mul_comm]
      refine lv_istore_n (lv' := [(2, .int (nI (tp (d + 1) (f i)))), (5, .int (nI (bN (tb (f i) (8 - d))))), (4, .int (nI d)), (3, .int (nI (pq os n d (tp d (f i)) i))), (0, .ref (ad 2)), (1, .int (nI i))]) hx hb dT_numberAt_33 rfl hl (by decide) rfl (fun ls hl => ?_)
      refine lv_aload_n hx hb dT_numberAt_34 rfl (lv_at hl 4 rfl) ?_
      refine va_get (D := D) (ci := 1) (v := .ref (ad 3)) (C := RT) (T := TT) (N := 4) hx hb hA9 inT hown hK hP 2 (wx_at (by omega) t2) rfl 0 (by decide) (hA9 _ mfT_11) (fun _ h9 => h9) rfl dT_numberAt_35 ?_
      refine lv_iload hx hb dT_numberAt_38 (lv_at hl 2 rfl) ?_
      refine va_aldq (C := RV) hx hb hK hP 3 1 (wx_at (by omega) t3) rfl (inN) dT_numberAt_40 ?_
      refine W.eq (g2 := F0 m 41 ls [.ref (ad (6 + 3 * d))]) (by rw [clN, tlv d (by omega)]; rfl) ?_
      refine lv_iload hx hb dT_numberAt_41 (lv_at hl 1 rfl) ?_
      refine lv_iload_n hx hb dT_numberAt_43 rfl (lv_at hl 3 rfl) ?_
      refine vp_callSi (va_runV (As := [.int (nI (bN (tb (f i) (8 - d)))), .int (nI (pq os n d (tp d (f i)) i))]) (rest := []) ⟨hx, hb, hml, hown, hA9⟩ (c_V_down l D cI cO cJ N ad ce (6 + 3 * d) (by omega) (bs os n d) n (tL d (by omega)) (tb (f i) (8 - d)) (pq os n d (tp d (f i)) i) (pq_le os d _ (by omega))) (cwV 2 hA9 (gV mlT_50 miV_down msV_down mn_V mkV_down) rfl rfl rfl (by decide +kernel) ⟨Nat.le_of_ble_eq_true rfl, Nat.le_of_ble_eq_true rfl⟩) ⟨PR_bl, wx_recv hK hP (by omega) (tL d (by omega)).o rfl, PR_mk hK hP⟩ rfl rfl hl.1 rfl (lv_room (Nat.le_of_ble_eq_true rfl)) dT_numberAt_44 ⟨Nat.le_of_ble_eq_true rfl, Nat.le_of_ble_eq_true rfl⟩).run (fun r3 hr3 => ?_)
      obtain rfl : r3 = nI (pq os n (d + 1) (tp (d + 1) (f i)) i) := hr3.trans (by rw [pq_x (by omega)])
      refine lv_istore_n (lv' := [(3, .int (nI (pq os n (d + 1) (tp (d + 1) (f i)) i))), (2, .int (nI (tp (d + 1) (f i)))), (5, .int (nI (bN (tb (f i) (8 - d))))), (4, .int (nI d)), (0, .ref (ad 2)), (1, .int (nI i))]) hx hb dT_numberAt_47 rfl hl (by decide) rfl (fun ls hl => ?_)
      refine lv_iinc (v := nI (d + 1)) (lv' := [(4, .int (nI (d + 1))), (3, .int (nI (pq os n (d + 1) (tp (d + 1) (f i)) i))), (2, .int (nI (tp (d + 1) (f i)))), (5, .int (nI (bN (tb (f i) (8 - d))))), (0, .ref (ad 2)), (1, .int (nI i))]) hx hb dT_numberAt_48 hl (k := 3) rfl (nI_1 d) (by decide) rfl (fun ls hl => ?_)
      refine lv_goto (tgt := 7) hx hb dT_numberAt_51 (by decide) ?_
      exact ih _ (by omega) (ls := ls) (d := d + 1) (lv_sub hl [0, 1, 2, 4, 5] rfl) (by omega) rfl

set_option maxHeartbeats 4000000 in
set_option maxRecDepth 100000 in
theorem c_T_countBelow (l : Launch) (D : va_G) (cI cO cJ : ClassId) (N : Nat) (ad : Nat → Nat) (ce : Nat → va_E) (hN : 33 ≤ N) (os : Nat → Nat → Nat) (n : Nat) (hT : TR cI cO ad ce os n) (f : Nat → Nat) (hW : WM f n os) (hf : ∀ i, i < n → f i < 512) (x : Nat) (hx5 : x ≤ 512) (u v : Nat) (huv : u ≤ v) (hv : v ≤ n) : Met l yT_countBelow (.code yT_countBelow bT_countBelow 10 (some .int) :: WA) ({ frames := 3, cells := 0, slots := 0, locals := 65 }) (PR D (TY cI cO cJ) N ad ce [.ref (ad 2), .int (nI x), .int (nI u), .int (nI v)]) (vp_Si (fun r => r = nI (lq f x u v))) 0 0 (fun _ => False) := by
  refine Met.ofW (cc := bT_countBelow) (maxL := 10) (ret := (some .int)) (by decide) rfl ?_
  intro p e s m args below meth c s₁ B hml hv
  obtain ⟨rfl, hP, hK⟩ := hv
  have hx := B.exec
  have hb := B.bytes
  have hr := B.returns
  have hA9 : ∀ w ∈ WA, w.before _ s = true := fun w h => atoms_spec (ws := .code yT_countBelow bT_countBelow 10 (some .int) :: WA) B.pre w (List.mem_cons_of_mem _ h)
  have hown : s.vm.findClass RT = some m.cls := findClass_of_methodNamed B.named
  have hlocks := B.notSynchronized
  have hl := lv_entry ([.ref (ad 2), .int (nI x), .int (nI u), .int (nI v)]) (n := 10) (Nat.le_of_ble_eq_true rfl)
  rw [lg_entry_eq]
  generalize (lg_sl ([.ref (ad 2), .int (nI x), .int (nI u), .int (nI v)]) ++ List.replicate (10 - (lg_sl ([.ref (ad 2), .int (nI x), .int (nI u), .int (nI v)])).length) Slot.unset).toArray = ls at hl ⊢
  have hl : lv_has ls 10 [(0, .ref (ad 2)), (1, .int (nI x)), (2, .int (nI u)), (3, .int (nI v))] := hl
  obtain ⟨t2, ⟨lv, t3, tlv⟩, tL, hn⟩ := id hT
  refine lv_iload_n hx hb dT_countBelow_0 rfl (lv_at hl 1 rfl) ?_
  refine lv_sipush (v := nI 512) hx hb dT_countBelow_1 (by decide +kernel) ?_
  refine lv_icmp_lt (tgt := 11) hx hb dT_countBelow_4 (by decide) (fun c4 => ?_) (fun c4 => ?_)
  · skip
    have d0 := ltN c4
    refine lv_iconst (v := nI 0) hx hb dT_countBelow_11 (by decide +kernel) ?_
    refine lv_istore (lv' := [(4, .int (nI 0)), (0, .ref (ad 2)), (1, .int (nI x)), (2, .int (nI u)), (3, .int (nI v))]) hx hb dT_countBelow_12 hl (by decide) rfl (fun ls hl => ?_)
    refine lv_iload_n hx hb dT_countBelow_14 rfl (lv_at hl 3 rfl) ?_
    refine lv_istore (lv' := [(5, .int (nI u)), (4, .int (nI 0)), (0, .ref (ad 2)), (1, .int (nI x)), (2, .int (nI u)), (3, .int (nI v))]) hx hb dT_countBelow_15 hl (by decide) rfl (fun ls hl => ?_)
    refine lv_iload_n hx hb dT_countBelow_17 rfl (lv_at hl 5 rfl) ?_
    refine lv_istore (lv' := [(6, .int (nI v)), (5, .int (nI u)), (4, .int (nI 0)), (0, .ref (ad 2)), (1, .int (nI x)), (2, .int (nI u)), (3, .int (nI v))]) hx hb dT_countBelow_18 hl (by decide) rfl (fun ls hl => ?_)
    refine lv_iconst (v := nI 0) hx hb dT_countBelow_20 (by decide +kernel) ?_
    refine lv_istore (lv' := [(7, .int (nI 0)), (6, .int (nI v)), (5, .int (nI u)), (4, .int (nI 0)), (0, .ref (ad 2)), (1, .int (nI x)), (2, .int (nI u)), (3, .int (nI v))]) hx hb dT_countBelow_21 hl (by decide) rfl (fun ls hl => ?_)
    obtain ⟨d, hd0⟩ : ∃ z : Nat, (0) = z := ⟨_, rfl⟩
    replace hl : lv_has ls 10 [(7, .int (nI d)), (6, .int (nI (pq os n d (tp d x) v))), (5, .int (nI (pq os n d (tp d x) u))), (4, .int (nI (bl f x u v d))), (0, .ref (ad 2)), (1, .int (nI x)), (2, .int (nI u)), (3, .int (nI v))] := by subst hd0; rw [bl_0 hf d0 huv hv]; exact lv_sub hl [0, 1, 2, 3, 4, 5, 6, 7] rfl
    have J : d ≤ 9 := by subst hd0; omega
    clear hd0
    obtain ⟨k9, hk9⟩ : ∃ z9 : Nat, z9 = 9 - d := ⟨_, rfl⟩
    induction k9 using Nat.strongRecOn generalizing d ls with
    | ind k9 ih =>
      refine lv_iload hx hb dT_countBelow_23 (lv_at hl 0 rfl) ?_
      refine lv_bipush (v := nI 9) hx hb dT_countBelow_25 (by decide +kernel) ?_
      refine lv_icmp_ge (tgt := 106) hx hb dT_countBelow_27 (by decide) (fun c27 => ?_) (fun c27 => ?_)
      · skip
        have d1 := leN c27
        have hd9 : d = 9 := by omega
        refine lv_iload hx hb dT_countBelow_106 (lv_at hl 3 rfl) ?_
        exact W.iret (v := (nI (bl f x u v d))) hx hb hr (fun t ht hW => ⟨(nI (bl f x u v d)), rfl, by rw [hd9, bl_9], ht⟩) (fun q h => nomatch h) dT_countBelow_108
      · skip
        have d1 := nleN c27
        refine lv_aload_n hx hb dT_countBelow_30 rfl (lv_at hl 4 rfl) ?_
        refine va_get (D := D) (ci := 1) (v := .ref (ad 3)) (C := RT) (T := TT) (N := 4) hx hb hA9 inT hown hK hP 2 (wx_at (by omega) t2) rfl 0 (by decide) (hA9 _ mfT_11) (fun _ h9 => h9) rfl dT_countBelow_31 ?_
        refine lv_iload hx hb dT_countBelow_34 (lv_at hl 0 rfl) ?_
        refine va_aldq (C := RV) hx hb hK hP 3 1 (wx_at (by omega) t3) rfl (inN) dT_countBelow_36 ?_
        refine W.eq (g2 := F0 m 37 ls [.ref (ad (6 + 3 * d))]) (by rw [clN, tlv d (by omega)]; rfl) ?_
        refine lv_astore (lv' := [(8, .ref (ad (6 + 3 * d))), (7, .int (nI d)), (6, .int (nI (pq os n d (tp d x) v))), (5, .int (nI (pq os n d (tp d x) u))), (4, .int (nI (bl f x u v d))), (0, .ref (ad 2)), (1, .int (nI x)), (2, .int (nI u)), (3, .int (nI v))]) hx hb dT_countBelow_37 hl (by decide) rfl (fun ls hl => ?_)
        refine lv_iload_n hx hb dT_countBelow_39 rfl (lv_at hl 6 rfl) ?_
        refine lv_iload hx hb dT_countBelow_40 (lv_at hl 1 rfl) ?_
        refine vp_callSi (va_runS (As := [.int (nI d)]) (rest := [.int (nI x)]) ⟨hx, hb, hml, hown, hA9⟩ (c_T_shiftOf l d (by omega)) (va_cwS 1 hA9 (gS mlT_35 mtT_shiftOf mn_T mkT_shiftOf) rfl rfl rfl (by decide +kernel) ⟨Nat.le_of_ble_eq_true rfl, Nat.le_of_ble_eq_true rfl⟩) ⟨P0_bl, P0_mk⟩ rfl rfl hl.1 rfl (lv_room (Nat.le_of_ble_eq_true rfl)) dT_countBelow_42 ⟨Nat.le_of_ble_eq_true rfl, Nat.le_of_ble_eq_true rfl⟩).run (fun r1 hr1 => ?_)
        obtain rfl : r1 = nI (8 - d) := hr1
        refine lv_ishr hx hb dT_countBelow_45 ?_
        refine lv_iconst (v := nI 1) hx hb dT_countBelow_46 (by decide +kernel) ?_
        refine lv_iand hx hb dT_countBelow_47 ?_
        refine lv_topi (fun z2 ez2 => ?_)
        obtain rfl : z2 = nI (bN (tb x (8 - d))) := by rw [ez2]; exact sh1 (by omega) (by omega)
        refine lv_istore (lv' := [(9, .int (nI (bN (tb x (8 - d))))), (8, .ref (ad (6 + 3 * d))), (7, .int (nI d)), (6, .int (nI (pq os n d (tp d x) v))), (5, .int (nI (pq os n d (tp d x) u))), (4, .int (nI (bl f x u v d))), (0, .ref (ad 2)), (1, .int (nI x)), (2, .int (nI u)), (3, .int (nI v))]) hx hb dT_countBelow_48 hl (by decide) rfl (fun ls hl => ?_)
        refine lv_iload hx hb dT_countBelow_50 (lv_at hl 0 rfl) ?_
        refine lv_iconst (v := nI 1) hx hb dT_countBelow_52 (by decide +kernel) ?_
        refine lv_icmp_ne (tgt := 78) hx hb dT_countBelow_53 (by decide) (fun c53 => ?_) (fun c53 => ?_)
        · skip
          have hxf := bx_f c53
          rw [← bl_z (f := f) (u := u) (v := v) (by omega) huv hxf] at hl
          refine lv_aload hx hb dT_countBelow_78 (lv_at hl 1 rfl) ?_
          refine lv_iload hx hb dT_countBelow_80 (lv_at hl 0 rfl) ?_
          refine lv_iload hx hb dT_countBelow_82 (lv_at hl 4 rfl) ?_
          refine vp_callSi (va_runV (As := [.int (nI (bN (tb x (8 - d)))), .int (nI (pq os n d (tp d x) u))]) (rest := []) ⟨hx, hb, hml, hown, hA9⟩ (c_V_down l D cI cO cJ N ad ce (6 + 3 * d) (by omega) (bs os n d) n (tL d (by omega)) (tb x (8 - d)) (pq os n d (tp d x) u) (pq_le os d _ (by omega))) (cwV 2 hA9 (gV mlT_50 miV_down msV_down mn_V mkV_down) rfl rfl rfl (by decide +kernel) ⟨Nat.le_of_ble_eq_true rfl, Nat.le_of_ble_eq_true rfl⟩) ⟨PR_bl, wx_recv hK hP (by omega) (tL d (by omega)).o rfl, PR_mk hK hP⟩ rfl rfl hl.1 rfl (lv_room (Nat.le_of_ble_eq_true rfl)) dT_countBelow_84 ⟨Nat.le_of_ble_eq_true rfl, Nat.le_of_ble_eq_true rfl⟩).run (fun r3 hr3 => ?_)
          obtain rfl : r3 = nI (pq os n (d + 1) (tp (d + 1) x) u) := hr3.trans (by rw [pq_x (by omega)])
          refine lv_istore (lv' := [(5, .int (nI (pq os n (d + 1) (tp (d + 1) x) u))), (9, .int (nI (bN (tb x (8 - d))))), (8, .ref (ad (6 + 3 * d))), (7, .int (nI d)), (6, .int (nI (pq os n d (tp d x) v))), (4, .int (nI (bl f x u v (d + 1)))), (0, .ref (ad 2)), (1, .int (nI x)), (2, .int (nI u)), (3, .int (nI v))]) hx hb dT_countBelow_87 hl (by decide) rfl (fun ls hl => ?_)
          refine lv_aload hx hb dT_countBelow_89 (lv_at hl 2 rfl) ?_
          refine lv_iload hx hb dT_countBelow_91 (lv_at hl 1 rfl) ?_
          refine lv_iload hx hb dT_countBelow_93 (lv_at hl 4 rfl) ?_
          refine vp_callSi (va_runV (As := [.int (nI (bN (tb x (8 - d)))), .int (nI (pq os n d (tp d x) v))]) (rest := []) ⟨hx, hb, hml, hown, hA9⟩ (c_V_down l D cI cO cJ N ad ce (6 + 3 * d) (by omega) (bs os n d) n (tL d (by omega)) (tb x (8 - d)) (pq os n d (tp d x) v) (pq_le os d _ hv)) (cwV 2 hA9 (gV mlT_50 miV_down msV_down mn_V mkV_down) rfl rfl rfl (by decide +kernel) ⟨Nat.le_of_ble_eq_true rfl, Nat.le_of_ble_eq_true rfl⟩) ⟨PR_bl, wx_recv hK hP (by omega) (tL d (by omega)).o rfl, PR_mk hK hP⟩ rfl rfl hl.1 rfl (lv_room (Nat.le_of_ble_eq_true rfl)) dT_countBelow_95 ⟨Nat.le_of_ble_eq_true rfl, Nat.le_of_ble_eq_true rfl⟩).run (fun r4 hr4 => ?_)
          obtain rfl : r4 = nI (pq os n (d + 1) (tp (d + 1) x) v) := hr4.trans (by rw [pq_x (by omega)])
          refine lv_istore (lv' := [(6, .int (nI (pq os n (d + 1) (tp (d + 1) x) v))), (5, .int (nI (pq os n (d + 1) (tp (d + 1) x) u))), (9, .int (nI (bN (tb x (8 - d))))), (8, .ref (ad (6 + 3 * d))), (7, .int (nI d)), (4, .int (nI (bl f x u v (d + 1)))), (0, .ref (ad 2)), (1, .int (nI x)), (2, .int (nI u)), (3, .int (nI v))]) hx hb dT_countBelow_98 hl (by decide) rfl (fun ls hl => ?_)
          refine lv_iinc (v := nI (d + 1)) (lv' := [(7, .int (nI (d + 1))), (6, .int (nI (pq os n (d + 1) (tp (d + 1) x) v))), (5, .int (nI (pq os n (d + 1) (tp (d + 1) x) u))), (9, .int (nI (bN (tb x (8 - d))))), (8, .ref (ad (6 + 3 * d))), (4, .int (nI (bl f x u v (d + 1)))), (0, .ref (ad 2)), (1, .int (nI x)), (2, .int (nI u)), (3, .int (nI v))]) hx hb dT_countBelow_100 hl (k := 4) rfl (nI_1 d) (by decide) rfl (fun ls hl => ?_)
          refine lv_goto (tgt := 23) hx hb dT_countBelow_103 (by decide) ?_
          exact ih _ (by omega) (ls := ls) (d := d + 1) (lv_sub hl [0, 1, 2, 5, 6, 7, 8, 9] rfl) (by omega) rfl
        · skip
          have hxt := bx_t c53
          refine lv_iload hx hb dT_countBelow_56 (lv_at hl 5 rfl) ?_
          refine lv_aload hx hb dT_countBelow_58 (lv_at hl 1 rfl) ?_
          refine lv_iconst (v := nI (bN false)) hx hb dT_countBelow_60 (by decide +kernel) ?_
          refine lv_iload hx hb dT_countBelow_61 (lv_at hl 3 rfl) ?_
          refine vp_callSi (va_runV (As := [.int (nI (bN false)), .int (nI (pq os n d (tp d x) v))]) (rest := [.int (nI (bl f x u v d))]) ⟨hx, hb, hml, hown, hA9⟩ (c_V_down l D cI cO cJ N ad ce (6 + 3 * d) (by omega) (bs os n d) n (tL d (by omega)) false (pq os n d (tp d x) v) (pq_le os d _ hv)) (cwV 2 hA9 (gV mlT_50 miV_down msV_down mn_V mkV_down) rfl rfl rfl (by decide +kernel) ⟨Nat.le_of_ble_eq_true rfl, Nat.le_of_ble_eq_true rfl⟩) ⟨PR_bl, wx_recv hK hP (by omega) (tL d (by omega)).o rfl, PR_mk hK hP⟩ rfl rfl hl.1 rfl (lv_room (Nat.le_of_ble_eq_true rfl)) dT_countBelow_63 ⟨Nat.le_of_ble_eq_true rfl, Nat.le_of_ble_eq_true rfl⟩).run (fun r5 hr5 => ?_)
          obtain rfl : r5 = nI (dn (bs os n d) n false (pq os n d (tp d x) v)) := hr5
          refine lv_aload hx hb dT_countBelow_66 (lv_at hl 1 rfl) ?_
          refine lv_iconst (v := nI (bN false)) hx hb dT_countBelow_68 (by decide +kernel) ?_
          refine lv_iload hx hb dT_countBelow_69 (lv_at hl 4 rfl) ?_
          refine vp_callSi (va_runV (As := [.int (nI (bN false)), .int (nI (pq os n d (tp d x) u))]) (rest := [.int (nI (dn (bs os n d) n false (pq os n d (tp d x) v))), .int (nI (bl f x u v d))]) ⟨hx, hb, hml, hown, hA9⟩ (c_V_down l D cI cO cJ N ad ce (6 + 3 * d) (by omega) (bs os n d) n (tL d (by omega)) false (pq os n d (tp d x) u) (pq_le os d _ (by omega))) (cwV 2 hA9 (gV mlT_50 miV_down msV_down mn_V mkV_down) rfl rfl rfl (by decide +kernel) ⟨Nat.le_of_ble_eq_true rfl, Nat.le_of_ble_eq_true rfl⟩) ⟨PR_bl, wx_recv hK hP (by omega) (tL d (by omega)).o rfl, PR_mk hK hP⟩ rfl rfl hl.1 rfl (lv_room (Nat.le_of_ble_eq_true rfl)) dT_countBelow_71 ⟨Nat.le_of_ble_eq_true rfl, Nat.le_of_ble_eq_true rfl⟩).run (fun r6 hr6 => ?_)
          obtain rfl : r6 = nI (dn (bs os n d) n false (pq os n d (tp d x) u)) := hr6
          refine lv_isub hx hb dT_countBelow_74 ?_
          refine lv_topi (fun z7 ez7 => ?_)
          obtain rfl : z7 = nI (ct (fun i => decide (tp (d + 1) (f i) = 2 * tp d x)) u v) := by rw [ez7]; rw [pk_sub (dn_mono _ _ _ (pq_mono _ _ _ _ huv)), zc hW hf (by omega) (tp_lt (by omega) d0) huv hv]
          refine lv_iadd hx hb dT_countBelow_75 ?_
          refine lv_topi (fun z8 ez8 => ?_)
          obtain rfl : z8 = nI (bl f x u v (d + 1)) := by rw [ez8]; rw [nI_add, bl_o (by omega) huv hxt]
          refine lv_istore (lv' := [(4, .int (nI (bl f x u v (d + 1)))), (9, .int (nI (bN (tb x (8 - d))))), (8, .ref (ad (6 + 3 * d))), (7, .int (nI d)), (6, .int (nI (pq os n d (tp d x) v))), (5, .int (nI (pq os n d (tp d x) u))), (0, .ref (ad 2)), (1, .int (nI x)), (2, .int (nI u)), (3, .int (nI v))]) hx hb dT_countBelow_76 hl (by decide) rfl (fun ls hl => ?_)
          refine lv_aload hx hb dT_countBelow_78 (lv_at hl 2 rfl) ?_
          refine lv_iload hx hb dT_countBelow_80 (lv_at hl 1 rfl) ?_
          refine lv_iload hx hb dT_countBelow_82 (lv_at hl 5 rfl) ?_
          refine vp_callSi (va_runV (As := [.int (nI (bN (tb x (8 - d)))), .int (nI (pq os n d (tp d x) u))]) (rest := []) ⟨hx, hb, hml, hown, hA9⟩ (c_V_down l D cI cO cJ N ad ce (6 + 3 * d) (by omega) (bs os n d) n (tL d (by omega)) (tb x (8 - d)) (pq os n d (tp d x) u) (pq_le os d _ (by omega))) (cwV 2 hA9 (gV mlT_50 miV_down msV_down mn_V mkV_down) rfl rfl rfl (by decide +kernel) ⟨Nat.le_of_ble_eq_true rfl, Nat.le_of_ble_eq_true rfl⟩) ⟨PR_bl, wx_recv hK hP (by omega) (tL d (by omega)).o rfl, PR_mk hK hP⟩ rfl rfl hl.1 rfl (lv_room (Nat.le_of_ble_eq_true rfl)) dT_countBelow_84 ⟨Nat.le_of_ble_eq_true rfl, Nat.le_of_ble_eq_true rfl⟩).run (fun r9 hr9 => ?_)
          obtain rfl : r9 = nI (pq os n (d + 1) (tp (d + 1) x) u) := hr9.trans (by rw [pq_x (by omega)])
          refine lv_istore (lv' := [(5, .int (nI (pq os n (d + 1) (tp (d + 1) x) u))), (4, .int (nI (bl f x u v (d + 1)))), (9, .int (nI (bN (tb x (8 - d))))), (8, .ref (ad (6 + 3 * d))), (7, .int (nI d)), (6, .int (nI (pq os n d (tp d x) v))), (0, .ref (ad 2)), (1, .int (nI x)), (2, .int (nI u)), (3, .int (nI v))]) hx hb dT_countBelow_87 hl (by decide) rfl (fun ls hl => ?_)
          refine lv_aload hx hb dT_countBelow_89 (lv_at hl 3 rfl) ?_
          refine lv_iload hx hb dT_countBelow_91 (lv_at hl 2 rfl) ?_
          refine lv_iload hx hb dT_countBelow_93 (lv_at hl 5 rfl) ?_
          refine vp_callSi (va_runV (As := [.int (nI (bN (tb x (8 - d)))), .int (nI (pq os n d (tp d x) v))]) (rest := []) ⟨hx, hb, hml, hown, hA9⟩ (c_V_down l D cI cO cJ N ad ce (6 + 3 * d) (by omega) (bs os n d) n (tL d (by omega)) (tb x (8 - d)) (pq os n d (tp d x) v) (pq_le os d _ hv)) (cwV 2 hA9 (gV mlT_50 miV_down msV_down mn_V mkV_down) rfl rfl rfl (by decide +kernel) ⟨Nat.le_of_ble_eq_true rfl, Nat.le_of_ble_eq_true rfl⟩) ⟨PR_bl, wx_recv hK hP (by omega) (tL d (by omega)).o rfl, PR_mk hK hP⟩ rfl rfl hl.1 rfl (lv_room (Nat.le_of_ble_eq_true rfl)) dT_countBelow_95 ⟨Nat.le_of_ble_eq_true rfl, Nat.le_of_ble_eq_true rfl⟩).run (fun r10 hr10 => ?_)
          obtain rfl : r10 = nI (pq os n (d + 1) (tp (d + 1) x) v) := hr10.trans (by rw [pq_x (by omega)])
          refine lv_istore (lv' := [(6, .int (nI (pq os n (d + 1) (tp (d + 1) x) v))), (5, .int (nI (pq os n (d + 1) (tp (d + 1) x) u))), (4, .int (nI (bl f x u v (d + 1)))), (9, .int (nI (bN (tb x (8 - d))))), (8, .ref (ad (6 + 3 * d))), (7, .int (nI d)), (0, .ref (ad 2)), (1, .int (nI x)), (2, .int (nI u)), (3, .int (nI v))]) hx hb dT_countBelow_98 hl (by decide) rfl (fun ls hl => ?_)
          refine lv_iinc (v := nI (d + 1)) (lv' := [(7, .int (nI (d + 1))), (6, .int (nI (pq os n (d + 1) (tp (d + 1) x) v))), (5, .int (nI (pq os n (d + 1) (tp (d + 1) x) u))), (4, .int (nI (bl f x u v (d + 1)))), (9, .int (nI (bN (tb x (8 - d))))), (8, .ref (ad (6 + 3 * d))), (0, .ref (ad 2)), (1, .int (nI x)), (2, .int (nI u)), (3, .int (nI v))]) hx hb dT_countBelow_100 hl (k := 5) rfl (nI_1 d) (by decide) rfl (fun ls hl => ?_)
          refine lv_goto (tgt := 23) hx hb dT_countBelow_103 (by decide) ?_
          exact ih _ (by omega) (ls := ls) (d := d + 1) (lv_sub hl [0, 1, 2, 3, 6, 7, 8, 9] rfl) (by omega) rfl
  · skip
    have d0 := nltN c4
    refine lv_iload_n hx hb dT_countBelow_7 rfl (lv_at hl 3 rfl) ?_
    refine lv_iload_n hx hb dT_countBelow_8 rfl (lv_at hl 2 rfl) ?_
    refine lv_isub hx hb dT_countBelow_9 ?_
    refine lv_topi (fun z11 ez11 => ?_)
    obtain rfl : z11 = nI (lq f x u v) := by rw [ez11]; rw [show x = 512 by omega, lq_512 hf huv hv]; exact pk_sub huv
    exact W.iret (v := (nI (lq f x u v))) hx hb hr (fun t ht hW => ⟨(nI (lq f x u v)), rfl, rfl, ht⟩) (fun q h => nomatch h) dT_countBelow_10

set_option maxHeartbeats 4000000 in
set_option maxRecDepth 100000 in
theorem c_T_groupOf (l : Launch) (D : va_G) (cI cO cJ : ClassId) (N : Nat) (ad : Nat → Nat) (ce : Nat → va_E) (hN : 33 ≤ N) (os : Nat → Nat → Nat) (n : Nat) (hT : TR cI cO ad ce os n) (f : Nat → Nat) (hW : WM f n os) (hf : ∀ i, i < n → f i < 512) (u v : Nat) (huv : u ≤ v) (hv : v ≤ n) (k0 : Nat) (hk0 : k0 < v - u) : Met l yT_groupOf (.code yT_groupOf bT_groupOf 12 (some .int) :: WA) ({ frames := 3, cells := 0, slots := 0, locals := 65 }) (PR D (TY cI cO cJ) N ad ce [.ref (ad 2), .int (nI u), .int (nI v), .int (nI k0)]) (vp_Si (fun r => ∃ y, r = nI (y * 4096 + eq f y u v) ∧ KT f u v k0 y ∧ y < 512)) 0 0 (fun _ => False) := by
  refine Met.ofW (cc := bT_groupOf) (maxL := 12) (ret := (some .int)) (by decide) rfl ?_
  intro p e s m args below meth c s₁ B hml hv
  obtain ⟨rfl, hP, hK⟩ := hv
  have hx := B.exec
  have hb := B.bytes
  have hr := B.returns
  have hA9 : ∀ w ∈ WA, w.before _ s = true := fun w h => atoms_spec (ws := .code yT_groupOf bT_groupOf 12 (some .int) :: WA) B.pre w (List.mem_cons_of_mem _ h)
  have hown : s.vm.findClass RT = some m.cls := findClass_of_methodNamed B.named
  have hlocks := B.notSynchronized
  have hl := lv_entry ([.ref (ad 2), .int (nI u), .int (nI v), .int (nI k0)]) (n := 12) (Nat.le_of_ble_eq_true rfl)
  rw [lg_entry_eq]
  generalize (lg_sl ([.ref (ad 2), .int (nI u), .int (nI v), .int (nI k0)]) ++ List.replicate (12 - (lg_sl ([.ref (ad 2), .int (nI u), .int (nI v), .int (nI k0)])).length) Slot.unset).toArray = ls at hl ⊢
  have hl : lv_has ls 12 [(0, .ref (ad 2)), (1, .int (nI u)), (2, .int (nI v)), (3, .int (nI k0))] := hl
  obtain ⟨t2, ⟨lv, t3, tlv⟩, tL, hn⟩ := id hT
  refine lv_iconst (v := nI 0) hx hb dT_groupOf_0 (by decide +kernel) ?_
  refine lv_istore (lv' := [(4, .int (nI 0)), (0, .ref (ad 2)), (1, .int (nI u)), (2, .int (nI v)), (3, .int (nI k0))]) hx hb dT_groupOf_1 hl (by decide) rfl (fun ls hl => ?_)
  refine lv_iload_n hx hb dT_groupOf_3 rfl (lv_at hl 2 rfl) ?_
  refine lv_istore (lv' := [(5, .int (nI u)), (4, .int (nI 0)), (0, .ref (ad 2)), (1, .int (nI u)), (2, .int (nI v)), (3, .int (nI k0))]) hx hb dT_groupOf_4 hl (by decide) rfl (fun ls hl => ?_)
  refine lv_iload_n hx hb dT_groupOf_6 rfl (lv_at hl 4 rfl) ?_
  refine lv_istore (lv' := [(6, .int (nI v)), (5, .int (nI u)), (4, .int (nI 0)), (0, .ref (ad 2)), (1, .int (nI u)), (2, .int (nI v)), (3, .int (nI k0))]) hx hb dT_groupOf_7 hl (by decide) rfl (fun ls hl => ?_)
  refine lv_iload_n hx hb dT_groupOf_9 rfl (lv_at hl 6 rfl) ?_
  refine lv_istore (lv' := [(7, .int (nI k0)), (6, .int (nI v)), (5, .int (nI u)), (4, .int (nI 0)), (0, .ref (ad 2)), (1, .int (nI u)), (2, .int (nI v)), (3, .int (nI k0))]) hx hb dT_groupOf_10 hl (by decide) rfl (fun ls hl => ?_)
  refine lv_iconst (v := nI 0) hx hb dT_groupOf_12 (by decide +kernel) ?_
  refine lv_istore (lv' := [(8, .int (nI 0)), (7, .int (nI k0)), (6, .int (nI v)), (5, .int (nI u)), (4, .int (nI 0)), (0, .ref (ad 2)), (1, .int (nI u)), (2, .int (nI v)), (3, .int (nI k0))]) hx hb dT_groupOf_13 hl (by decide) rfl (fun ls hl => ?_)
  obtain ⟨d, hd0⟩ : ∃ z : Nat, (0) = z := ⟨_, rfl⟩
  obtain ⟨y, hy0⟩ : ∃ z : Nat, (0) = z := ⟨_, rfl⟩
  replace hl : lv_has ls 12 [(8, .int (nI d)), (7, .int (nI (k0 - gl f u v d y))), (6, .int (nI (pq os n d y v))), (5, .int (nI (pq os n d y u))), (4, .int (nI y)), (0, .ref (ad 2)), (1, .int (nI u)), (2, .int (nI v)), (3, .int (nI k0))] := by subst hd0 hy0; rw [gl0 f huv, Nat.sub_zero]; exact lv_sub hl [0, 1, 2, 3, 4, 5, 6, 7, 8] rfl
  have J : d ≤ 9 ∧ y < 2 ^ d ∧ GK f u v k0 d y := by subst hd0 hy0; exact ⟨by omega, by decide, gk_0 hf huv hv hk0⟩
  clear hd0
  clear hy0
  obtain ⟨k9, hk9⟩ : ∃ z9 : Nat, z9 = 9 - d := ⟨_, rfl⟩
  induction k9 using Nat.strongRecOn generalizing d y ls with
  | ind k9 ih =>
    obtain ⟨j1, j2, j3⟩ := J
    refine lv_iload hx hb dT_groupOf_15 (lv_at hl 0 rfl) ?_
    refine lv_bipush (v := nI 9) hx hb dT_groupOf_17 (by decide +kernel) ?_
    refine lv_icmp_ge (tgt := 114) hx hb dT_groupOf_19 (by decide) (fun c19 => ?_) (fun c19 => ?_)
    · skip
      have d1 := leN c19
      have hd9 : d = 9 := by omega
      subst hd9
      refine lv_iload hx hb dT_groupOf_114 (lv_at hl 4 rfl) ?_
      refine lv_sipush (v := nI 4096) hx hb dT_groupOf_116 (by decide +kernel) ?_
      refine lv_imul hx hb dT_groupOf_119 ?_
      refine lv_iload hx hb dT_groupOf_120 (lv_at hl 2 rfl) ?_
      refine lv_iload hx hb dT_groupOf_122 (lv_at hl 3 rfl) ?_
      refine lv_isub hx hb dT_groupOf_124 ?_
      refine lv_topi (fun z1 ez1 => ?_)
      obtain rfl : z1 = nI (eq f y u v) := by rw [ez1]; rw [pk_sub (pq_mono _ _ _ _ huv), pq_9 hW hf j2 huv hv]
      refine lv_iadd hx hb dT_groupOf_125 ?_
      refine lv_topi (fun z2 ez2 => ?_)
      obtain rfl : z2 = nI (y * 4096 + eq f y u v) := by rw [ez2]; rw [pk_mul, nI_add]
      exact W.iret (v := (nI (y * 4096 + eq f y u v))) hx hb hr (fun t ht hW => ⟨(nI (y * 4096 + eq f y u v)), rfl, ⟨y, rfl, gk_9 j3, j2⟩, ht⟩) (fun q h => nomatch h) dT_groupOf_126
    · skip
      have d1 := nleN c19
      have b1 := ct_le (fun i => decide (tp (d + 1) (f i) = 2 * y)) huv
      refine lv_aload_n hx hb dT_groupOf_22 rfl (lv_at hl 5 rfl) ?_
      refine va_get (D := D) (ci := 1) (v := .ref (ad 3)) (C := RT) (T := TT) (N := 4) hx hb hA9 inT hown hK hP 2 (wx_at (by omega) t2) rfl 0 (by decide) (hA9 _ mfT_11) (fun _ h9 => h9) rfl dT_groupOf_23 ?_
      refine lv_iload hx hb dT_groupOf_26 (lv_at hl 0 rfl) ?_
      refine va_aldq (C := RV) hx hb hK hP 3 1 (wx_at (by omega) t3) rfl (inN) dT_groupOf_28 ?_
      refine W.eq (g2 := F0 m 29 ls [.ref (ad (6 + 3 * d))]) (by rw [clN, tlv d (by omega)]; rfl) ?_
      refine lv_astore (lv' := [(9, .ref (ad (6 + 3 * d))), (8, .int (nI d)), (7, .int (nI (k0 - gl f u v d y))), (6, .int (nI (pq os n d y v))), (5, .int (nI (pq os n d y u))), (4, .int (nI y)), (0, .ref (ad 2)), (1, .int (nI u)), (2, .int (nI v)), (3, .int (nI k0))]) hx hb dT_groupOf_29 hl (by decide) rfl (fun ls hl => ?_)
      refine lv_aload hx hb dT_groupOf_31 (lv_at hl 0 rfl) ?_
      refine lv_iconst (v := nI (bN false)) hx hb dT_groupOf_33 (by decide +kernel) ?_
      refine lv_iload hx hb dT_groupOf_34 (lv_at hl 3 rfl) ?_
      refine vp_callSi (va_runV (As := [.int (nI (bN false)), .int (nI (pq os n d y v))]) (rest := []) ⟨hx, hb, hml, hown, hA9⟩ (c_V_down l D cI cO cJ N ad ce (6 + 3 * d) (by omega) (bs os n d) n (tL d (by omega)) false (pq os n d y v) (pq_le os d _ hv)) (cwV 2 hA9 (gV mlT_50 miV_down msV_down mn_V mkV_down) rfl rfl rfl (by decide +kernel) ⟨Nat.le_of_ble_eq_true rfl, Nat.le_of_ble_eq_true rfl⟩) ⟨PR_bl, wx_recv hK hP (by omega) (tL d (by omega)).o rfl, PR_mk hK hP⟩ rfl rfl hl.1 rfl (lv_room (Nat.le_of_ble_eq_true rfl)) dT_groupOf_36 ⟨Nat.le_of_ble_eq_true rfl, Nat.le_of_ble_eq_true rfl⟩).run (fun r3 hr3 => ?_)
      obtain rfl : r3 = nI (dn (bs os n d) n false (pq os n d y v)) := hr3
      refine lv_aload hx hb dT_groupOf_39 (lv_at hl 0 rfl) ?_
      refine lv_iconst (v := nI (bN false)) hx hb dT_groupOf_41 (by decide +kernel) ?_
      refine lv_iload hx hb dT_groupOf_42 (lv_at hl 4 rfl) ?_
      refine vp_callSi (va_runV (As := [.int (nI (bN false)), .int (nI (pq os n d y u))]) (rest := [.int (nI (dn (bs os n d) n false (pq os n d y v)))]) ⟨hx, hb, hml, hown, hA9⟩ (c_V_down l D cI cO cJ N ad ce (6 + 3 * d) (by omega) (bs os n d) n (tL d (by omega)) false (pq os n d y u) (pq_le os d _ (by omega))) (cwV 2 hA9 (gV mlT_50 miV_down msV_down mn_V mkV_down) rfl rfl rfl (by decide +kernel) ⟨Nat.le_of_ble_eq_true rfl, Nat.le_of_ble_eq_true rfl⟩) ⟨PR_bl, wx_recv hK hP (by omega) (tL d (by omega)).o rfl, PR_mk hK hP⟩ rfl rfl hl.1 rfl (lv_room (Nat.le_of_ble_eq_true rfl)) dT_groupOf_44 ⟨Nat.le_of_ble_eq_true rfl, Nat.le_of_ble_eq_true rfl⟩).run (fun r4 hr4 => ?_)
      obtain rfl : r4 = nI (dn (bs os n d) n false (pq os n d y u)) := hr4
      refine lv_isub hx hb dT_groupOf_47 ?_
      refine lv_topi (fun z5 ez5 => ?_)
      obtain rfl : z5 = nI (ct (fun i => decide (tp (d + 1) (f i) = 2 * y)) u v) := by rw [ez5]; rw [pk_sub (dn_mono _ _ _ (pq_mono _ _ _ _ huv)), zc hW hf (by omega) j2 huv hv]
      refine lv_istore (lv' := [(10, .int (nI (ct (fun i => decide (tp (d + 1) (f i) = 2 * y)) u v))), (9, .ref (ad (6 + 3 * d))), (8, .int (nI d)), (7, .int (nI (k0 - gl f u v d y))), (6, .int (nI (pq os n d y v))), (5, .int (nI (pq os n d y u))), (4, .int (nI y)), (0, .ref (ad 2)), (1, .int (nI u)), (2, .int (nI v)), (3, .int (nI k0))]) hx hb dT_groupOf_48 hl (by decide) rfl (fun ls hl => ?_)
      refine lv_iload hx hb dT_groupOf_50 (lv_at hl 3 rfl) ?_
      refine lv_iload hx hb dT_groupOf_52 (lv_at hl 0 rfl) ?_
      refine lv_icmp_ge (tgt := 61) hx hb dT_groupOf_54 (by decide) (fun c54 => ?_) (fun c54 => ?_)
      · skip
        have dz := leN c54
        refine lv_iconst (v := nI (bN true)) hx hb dT_groupOf_61 (by decide +kernel) ?_
        refine lv_istore (lv' := [(11, .int (nI (bN true))), (10, .int (nI (ct (fun i => decide (tp (d + 1) (f i) = 2 * y)) u v))), (9, .ref (ad (6 + 3 * d))), (8, .int (nI d)), (7, .int (nI (k0 - gl f u v d y))), (6, .int (nI (pq os n d y v))), (5, .int (nI (pq os n d y u))), (4, .int (nI y)), (0, .ref (ad 2)), (1, .int (nI u)), (2, .int (nI v)), (3, .int (nI k0))]) hx hb dT_groupOf_62 hl (by decide) rfl (fun ls hl => ?_)
        refine lv_iload hx hb dT_groupOf_64 (lv_at hl 0 rfl) ?_
        refine lv_iconst (v := nI 1) hx hb dT_groupOf_66 (by decide +kernel) ?_
        refine lv_icmp_ne (tgt := 77) hx hb dT_groupOf_67 (by decide) (fun c67 => ?_) (fun c67 => ?_)
        · skip
          exact absurd rfl c67
        · skip
          refine lv_iload hx hb dT_groupOf_70 (lv_at hl 4 rfl) ?_
          refine lv_iload hx hb dT_groupOf_72 (lv_at hl 1 rfl) ?_
          refine lv_isub hx hb dT_groupOf_74 ?_
          refine lv_topi (fun z6 ez6 => ?_)
          obtain rfl : z6 = nI (k0 - gl f u v (d + 1) (2 * y + 1)) := by rw [ez6]; rw [pk_sub dz, Nat.sub_sub]; unfold gl; rw [gk_lt1 (by omega) y huv]
          refine lv_istore (lv' := [(7, .int (nI (k0 - gl f u v (d + 1) (2 * y + 1)))), (11, .int (nI (bN true))), (10, .int (nI (ct (fun i => decide (tp (d + 1) (f i) = 2 * y)) u v))), (9, .ref (ad (6 + 3 * d))), (8, .int (nI d)), (6, .int (nI (pq os n d y v))), (5, .int (nI (pq os n d y u))), (4, .int (nI y)), (0, .ref (ad 2)), (1, .int (nI u)), (2, .int (nI v)), (3, .int (nI k0))]) hx hb dT_groupOf_75 hl (by decide) rfl (fun ls hl => ?_)
          refine lv_iload hx hb dT_groupOf_77 (lv_at hl 7 rfl) ?_
          refine lv_iconst (v := nI 2) hx hb dT_groupOf_79 (by decide +kernel) ?_
          refine lv_imul hx hb dT_groupOf_80 ?_
          refine lv_iload hx hb dT_groupOf_81 (lv_at hl 1 rfl) ?_
          refine lv_iadd hx hb dT_groupOf_83 ?_
          refine lv_topi (fun z7 ez7 => ?_)
          obtain rfl : z7 = nI (2 * y + 1) := by rw [ez7]; rw [pk_mul, nI_add, Nat.mul_comm]; rfl
          refine lv_istore (lv' := [(4, .int (nI (2 * y + 1))), (7, .int (nI (k0 - gl f u v (d + 1) (2 * y + 1)))), (11, .int (nI (bN true))), (10, .int (nI (ct (fun i => decide (tp (d + 1) (f i) = 2 * y)) u v))), (9, .ref (ad (6 + 3 * d))), (8, .int (nI d)), (6, .int (nI (pq os n d y v))), (5, .int (nI (pq os n d y u))), (0, .ref (ad 2)), (1, .int (nI u)), (2, .int (nI v)), (3, .int (nI k0))]) hx hb dT_groupOf_84 hl (by decide) rfl (fun ls hl => ?_)
          refine lv_aload hx hb dT_groupOf_86 (lv_at hl 4 rfl) ?_
          refine lv_iload hx hb dT_groupOf_88 (lv_at hl 2 rfl) ?_
          refine lv_iload hx hb dT_groupOf_90 (lv_at hl 7 rfl) ?_
          refine vp_callSi (va_runV (As := [.int (nI (bN true)), .int (nI (pq os n d y u))]) (rest := []) ⟨hx, hb, hml, hown, hA9⟩ (c_V_down l D cI cO cJ N ad ce (6 + 3 * d) (by omega) (bs os n d) n (tL d (by omega)) true (pq os n d y u) (pq_le os d _ (by omega))) (cwV 2 hA9 (gV mlT_50 miV_down msV_down mn_V mkV_down) rfl rfl rfl (by decide +kernel) ⟨Nat.le_of_ble_eq_true rfl, Nat.le_of_ble_eq_true rfl⟩) ⟨PR_bl, wx_recv hK hP (by omega) (tL d (by omega)).o rfl, PR_mk hK hP⟩ rfl rfl hl.1 rfl (lv_room (Nat.le_of_ble_eq_true rfl)) dT_groupOf_92 ⟨Nat.le_of_ble_eq_true rfl, Nat.le_of_ble_eq_true rfl⟩).run (fun r8 hr8 => ?_)
          obtain rfl : r8 = nI (pq os n (d + 1) (2 * y + 1) u) := hr8.trans (by rw [pq_o])
          refine lv_istore (lv' := [(5, .int (nI (pq os n (d + 1) (2 * y + 1) u))), (4, .int (nI (2 * y + 1))), (7, .int (nI (k0 - gl f u v (d + 1) (2 * y + 1)))), (11, .int (nI (bN true))), (10, .int (nI (ct (fun i => decide (tp (d + 1) (f i) = 2 * y)) u v))), (9, .ref (ad (6 + 3 * d))), (8, .int (nI d)), (6, .int (nI (pq os n d y v))), (0, .ref (ad 2)), (1, .int (nI u)), (2, .int (nI v)), (3, .int (nI k0))]) hx hb dT_groupOf_95 hl (by decide) rfl (fun ls hl => ?_)
          refine lv_aload hx hb dT_groupOf_97 (lv_at hl 5 rfl) ?_
          refine lv_iload hx hb dT_groupOf_99 (lv_at hl 3 rfl) ?_
          refine lv_iload hx hb dT_groupOf_101 (lv_at hl 7 rfl) ?_
          refine vp_callSi (va_runV (As := [.int (nI (bN true)), .int (nI (pq os n d y v))]) (rest := []) ⟨hx, hb, hml, hown, hA9⟩ (c_V_down l D cI cO cJ N ad ce (6 + 3 * d) (by omega) (bs os n d) n (tL d (by omega)) true (pq os n d y v) (pq_le os d _ hv)) (cwV 2 hA9 (gV mlT_50 miV_down msV_down mn_V mkV_down) rfl rfl rfl (by decide +kernel) ⟨Nat.le_of_ble_eq_true rfl, Nat.le_of_ble_eq_true rfl⟩) ⟨PR_bl, wx_recv hK hP (by omega) (tL d (by omega)).o rfl, PR_mk hK hP⟩ rfl rfl hl.1 rfl (lv_room (Nat.le_of_ble_eq_true rfl)) dT_groupOf_103 ⟨Nat.le_of_ble_eq_true rfl, Nat.le_of_ble_eq_true rfl⟩).run (fun r9 hr9 => ?_)
          obtain rfl : r9 = nI (pq os n (d + 1) (2 * y + 1) v) := hr9.trans (by rw [pq_o])
          refine lv_istore (lv' := [(6, .int (nI (pq os n (d + 1) (2 * y + 1) v))), (5, .int (nI (pq os n (d + 1) (2 * y + 1) u))), (4, .int (nI (2 * y + 1))), (7, .int (nI (k0 - gl f u v (d + 1) (2 * y + 1)))), (11, .int (nI (bN true))), (10, .int (nI (ct (fun i => decide (tp (d + 1) (f i) = 2 * y)) u v))), (9, .ref (ad (6 + 3 * d))), (8, .int (nI d)), (0, .ref (ad 2)), (1, .int (nI u)), (2, .int (nI v)), (3, .int (nI k0))]) hx hb dT_groupOf_106 hl (by decide) rfl (fun ls hl => ?_)
          refine lv_iinc (v := nI (d + 1)) (lv' := [(8, .int (nI (d + 1))), (6, .int (nI (pq os n (d + 1) (2 * y + 1) v))), (5, .int (nI (pq os n (d + 1) (2 * y + 1) u))), (4, .int (nI (2 * y + 1))), (7, .int (nI (k0 - gl f u v (d + 1) (2 * y + 1)))), (11, .int (nI (bN true))), (10, .int (nI (ct (fun i => decide (tp (d + 1) (f i) = 2 * y)) u v))), (9, .ref (ad (6 + 3 * d))), (0, .ref (ad 2)), (1, .int (nI u)), (2, .int (nI v)), (3, .int (nI k0))]) hx hb dT_groupOf_108 hl (k := 7) rfl (nI_1 d) (by decide) rfl (fun ls hl => ?_)
          refine lv_goto (tgt := 15) hx hb dT_groupOf_111 (by decide) ?_
          exact ih _ (by omega) (ls := ls) (d := d + 1) (y := 2 * y + 1) (lv_sub hl [0, 4, 1, 2, 3, 8, 9, 10, 11] rfl) (⟨by omega, by rw [Nat.pow_succ]; omega, gk_o (by omega) huv j3 dz⟩) rfl
      · skip
        have dz := nleN c54
        rw [gl_e (f := f) (show d < 9 by omega) y huv] at hl
        refine lv_iconst (v := nI (bN false)) hx hb dT_groupOf_57 (by decide +kernel) ?_
        refine lv_goto (tgt := 62) hx hb dT_groupOf_58 (by decide) ?_
        refine lv_istore (lv' := [(11, .int (nI (bN false))), (10, .int (nI (ct (fun i => decide (tp (d + 1) (f i) = 2 * y)) u v))), (9, .ref (ad (6 + 3 * d))), (8, .int (nI d)), (7, .int (nI (k0 - gl f u v (d + 1) (2 * y)))), (6, .int (nI (pq os n d y v))), (5, .int (nI (pq os n d y u))), (4, .int (nI y)), (0, .ref (ad 2)), (1, .int (nI u)), (2, .int (nI v)), (3, .int (nI k0))]) hx hb dT_groupOf_62 hl (by decide) rfl (fun ls hl => ?_)
        refine lv_iload hx hb dT_groupOf_64 (lv_at hl 0 rfl) ?_
        refine lv_iconst (v := nI 1) hx hb dT_groupOf_66 (by decide +kernel) ?_
        refine lv_icmp_ne (tgt := 77) hx hb dT_groupOf_67 (by decide) (fun c67 => ?_) (fun c67 => ?_)
        · skip
          refine lv_iload hx hb dT_groupOf_77 (lv_at hl 7 rfl) ?_
          refine lv_iconst (v := nI 2) hx hb dT_groupOf_79 (by decide +kernel) ?_
          refine lv_imul hx hb dT_groupOf_80 ?_
          refine lv_iload hx hb dT_groupOf_81 (lv_at hl 0 rfl) ?_
          refine lv_iadd hx hb dT_groupOf_83 ?_
          refine lv_topi (fun z10 ez10 => ?_)
          obtain rfl : z10 = nI (2 * y) := by rw [ez10]; rw [pk_mul, nI_add, Nat.mul_comm]; rfl
          refine lv_istore (lv' := [(4, .int (nI (2 * y))), (11, .int (nI (bN false))), (10, .int (nI (ct (fun i => decide (tp (d + 1) (f i) = 2 * y)) u v))), (9, .ref (ad (6 + 3 * d))), (8, .int (nI d)), (7, .int (nI (k0 - gl f u v (d + 1) (2 * y)))), (6, .int (nI (pq os n d y v))), (5, .int (nI (pq os n d y u))), (0, .ref (ad 2)), (1, .int (nI u)), (2, .int (nI v)), (3, .int (nI k0))]) hx hb dT_groupOf_84 hl (by decide) rfl (fun ls hl => ?_)
          refine lv_aload hx hb dT_groupOf_86 (lv_at hl 3 rfl) ?_
          refine lv_iload hx hb dT_groupOf_88 (lv_at hl 1 rfl) ?_
          refine lv_iload hx hb dT_groupOf_90 (lv_at hl 7 rfl) ?_
          refine vp_callSi (va_runV (As := [.int (nI (bN false)), .int (nI (pq os n d y u))]) (rest := []) ⟨hx, hb, hml, hown, hA9⟩ (c_V_down l D cI cO cJ N ad ce (6 + 3 * d) (by omega) (bs os n d) n (tL d (by omega)) false (pq os n d y u) (pq_le os d _ (by omega))) (cwV 2 hA9 (gV mlT_50 miV_down msV_down mn_V mkV_down) rfl rfl rfl (by decide +kernel) ⟨Nat.le_of_ble_eq_true rfl, Nat.le_of_ble_eq_true rfl⟩) ⟨PR_bl, wx_recv hK hP (by omega) (tL d (by omega)).o rfl, PR_mk hK hP⟩ rfl rfl hl.1 rfl (lv_room (Nat.le_of_ble_eq_true rfl)) dT_groupOf_92 ⟨Nat.le_of_ble_eq_true rfl, Nat.le_of_ble_eq_true rfl⟩).run (fun r11 hr11 => ?_)
          obtain rfl : r11 = nI (pq os n (d + 1) (2 * y) u) := hr11.trans (by rw [pq_e])
          refine lv_istore (lv' := [(5, .int (nI (pq os n (d + 1) (2 * y) u))), (4, .int (nI (2 * y))), (11, .int (nI (bN false))), (10, .int (nI (ct (fun i => decide (tp (d + 1) (f i) = 2 * y)) u v))), (9, .ref (ad (6 + 3 * d))), (8, .int (nI d)), (7, .int (nI (k0 - gl f u v (d + 1) (2 * y)))), (6, .int (nI (pq os n d y v))), (0, .ref (ad 2)), (1, .int (nI u)), (2, .int (nI v)), (3, .int (nI k0))]) hx hb dT_groupOf_95 hl (by decide) rfl (fun ls hl => ?_)
          refine lv_aload hx hb dT_groupOf_97 (lv_at hl 4 rfl) ?_
          refine lv_iload hx hb dT_groupOf_99 (lv_at hl 2 rfl) ?_
          refine lv_iload hx hb dT_groupOf_101 (lv_at hl 7 rfl) ?_
          refine vp_callSi (va_runV (As := [.int (nI (bN false)), .int (nI (pq os n d y v))]) (rest := []) ⟨hx, hb, hml, hown, hA9⟩ (c_V_down l D cI cO cJ N ad ce (6 + 3 * d) (by omega) (bs os n d) n (tL d (by omega)) false (pq os n d y v) (pq_le os d _ hv)) (cwV 2 hA9 (gV mlT_50 miV_down msV_down mn_V mkV_down) rfl rfl rfl (by decide +kernel) ⟨Nat.le_of_ble_eq_true rfl, Nat.le_of_ble_eq_true rfl⟩) ⟨PR_bl, wx_recv hK hP (by omega) (tL d (by omega)).o rfl, PR_mk hK hP⟩ rfl rfl hl.1 rfl (lv_room (Nat.le_of_ble_eq_true rfl)) dT_groupOf_103 ⟨Nat.le_of_ble_eq_true rfl, Nat.le_of_ble_eq_true rfl⟩).run (fun r12 hr12 => ?_)
          obtain rfl : r12 = nI (pq os n (d + 1) (2 * y) v) := hr12.trans (by rw [pq_e])
          refine lv_istore (lv' := [(6, .int (nI (pq os n (d + 1) (2 * y) v))), (5, .int (nI (pq os n (d + 1) (2 * y) u))), (4, .int (nI (2 * y))), (11, .int (nI (bN false))), (10, .int (nI (ct (fun i => decide (tp (d + 1) (f i) = 2 * y)) u v))), (9, .ref (ad (6 + 3 * d))), (8, .int (nI d)), (7, .int (nI (k0 - gl f u v (d + 1) (2 * y)))), (0, .ref (ad 2)), (1, .int (nI u)), (2, .int (nI v)), (3, .int (nI k0))]) hx hb dT_groupOf_106 hl (by decide) rfl (fun ls hl => ?_)
          refine lv_iinc (v := nI (d + 1)) (lv' := [(8, .int (nI (d + 1))), (6, .int (nI (pq os n (d + 1) (2 * y) v))), (5, .int (nI (pq os n (d + 1) (2 * y) u))), (4, .int (nI (2 * y))), (11, .int (nI (bN false))), (10, .int (nI (ct (fun i => decide (tp (d + 1) (f i) = 2 * y)) u v))), (9, .ref (ad (6 + 3 * d))), (7, .int (nI (k0 - gl f u v (d + 1) (2 * y)))), (0, .ref (ad 2)), (1, .int (nI u)), (2, .int (nI v)), (3, .int (nI k0))]) hx hb dT_groupOf_108 hl (k := 6) rfl (nI_1 d) (by decide) rfl (fun ls hl => ?_)
          refine lv_goto (tgt := 15) hx hb dT_groupOf_111 (by decide) ?_
          exact ih _ (by omega) (ls := ls) (d := d + 1) (y := 2 * y) (lv_sub hl [0, 7, 1, 2, 3, 8, 9, 10, 11] rfl) (⟨by omega, by rw [Nat.pow_succ]; omega, gk_z (by omega) huv j3 dz⟩) rfl
        · skip
          exact absurd c67 (by decide +kernel)

set_option maxHeartbeats 4000000 in
set_option maxRecDepth 100000 in
theorem c_T_placeOf (l : Launch) (D : va_G) (cI cO cJ : ClassId) (N : Nat) (ad : Nat → Nat) (ce : Nat → va_E) (hN : 33 ≤ N) (os : Nat → Nat → Nat) (n : Nat) (hT : TR cI cO ad ce os n) (f : Nat → Nat) (hW : WM f n os) (hf : ∀ i, i < n → f i < 512) (x : Nat) (hx5 : x < 512) (k0 i0 : Nat) (hi0 : i0 < n) (hfi : f i0 = x) (hk0 : cn (fun i => decide (f i = x)) i0 = k0) : Met l yT_placeOf (.code yT_placeOf bT_placeOf 5 (some .int) :: WA) ({ frames := 4, cells := 0, slots := 0, locals := 89 }) (PR D (TY cI cO cJ) N ad ce [.ref (ad 2), .int (nI x), .int (nI k0)]) (vp_Si (fun r => r = nI i0)) 0 0 (fun _ => False) := by
  refine Met.ofW (cc := bT_placeOf) (maxL := 5) (ret := (some .int)) (by decide) rfl ?_
  intro p e s m args below meth c s₁ B hml hv
  obtain ⟨rfl, hP, hK⟩ := hv
  have hx := B.exec
  have hb := B.bytes
  have hr := B.returns
  have hA9 : ∀ w ∈ WA, w.before _ s = true := fun w h => atoms_spec (ws := .code yT_placeOf bT_placeOf 5 (some .int) :: WA) B.pre w (List.mem_cons_of_mem _ h)
  have hown : s.vm.findClass RT = some m.cls := findClass_of_methodNamed B.named
  have hlocks := B.notSynchronized
  have hl := lv_entry ([.ref (ad 2), .int (nI x), .int (nI k0)]) (n := 5) (Nat.le_of_ble_eq_true rfl)
  rw [lg_entry_eq]
  generalize (lg_sl ([.ref (ad 2), .int (nI x), .int (nI k0)]) ++ List.replicate (5 - (lg_sl ([.ref (ad 2), .int (nI x), .int (nI k0)])).length) Slot.unset).toArray = ls at hl ⊢
  have hl : lv_has ls 5 [(0, .ref (ad 2)), (1, .int (nI x)), (2, .int (nI k0))] := hl
  obtain ⟨t2, ⟨lv, t3, tlv⟩, tL, hn⟩ := id hT
  refine lv_aload_n hx hb dT_placeOf_0 rfl (lv_at hl 0 rfl) ?_
  refine lv_iload_n hx hb dT_placeOf_1 rfl (lv_at hl 1 rfl) ?_
  refine lv_iconst (v := nI 0) hx hb dT_placeOf_2 (by decide +kernel) ?_
  refine vp_callSi (va_runV (As := [.int (nI x), .int (nI 0)]) (rest := []) ⟨hx, hb, hml, hown, hA9⟩ (c_T_bottomOf l D cI cO cJ N ad ce hN os n hT x hx5 0 (Nat.zero_le _)) (cwV 2 hA9 (gV mlT_54 miT_bottomOf msT_bottomOf mn_T mkT_bottomOf) rfl rfl rfl (by decide +kernel) ⟨Nat.le_of_ble_eq_true rfl, Nat.le_of_ble_eq_true rfl⟩) ⟨PR_bl, wx_recv hK hP (by omega) t2 rfl, PR_mk hK hP⟩ rfl rfl hl.1 rfl (lv_room (Nat.le_of_ble_eq_true rfl)) dT_placeOf_3 ⟨Nat.le_of_ble_eq_true rfl, Nat.le_of_ble_eq_true rfl⟩).run (fun r1 hr1 => ?_)
  obtain rfl : r1 = nI (pq os n 9 x 0) := hr1
  refine lv_iload_n hx hb dT_placeOf_6 rfl (lv_at hl 2 rfl) ?_
  refine lv_iadd hx hb dT_placeOf_7 ?_
  refine lv_topi (fun z2 ez2 => ?_)
  obtain rfl : z2 = nI (pq os n 9 x i0) := by rw [ez2]; rw [nI_add, ← hk0, pl_sum hW hf hx5 hi0]
  refine lv_istore_n (lv' := [(3, .int (nI (pq os n 9 x i0))), (0, .ref (ad 2)), (1, .int (nI x)), (2, .int (nI k0))]) hx hb dT_placeOf_8 rfl hl (by decide) rfl (fun ls hl => ?_)
  refine lv_bipush (v := nI 8) hx hb dT_placeOf_9 (by decide +kernel) ?_
  refine lv_istore (lv' := [(4, .int (nI 8)), (3, .int (nI (pq os n 9 x i0))), (0, .ref (ad 2)), (1, .int (nI x)), (2, .int (nI k0))]) hx hb dT_placeOf_11 hl (by decide) rfl (fun ls hl => ?_)
  obtain ⟨d, hd0⟩ : ∃ z : Nat, (9) = z := ⟨_, rfl⟩
  replace hl : lv_has ls 5 [(4, .int (nI d - 1)), (3, .int (nI (pq os n d (tp d x) i0))), (0, .ref (ad 2)), (1, .int (nI x)), (2, .int (nI k0))] := by subst hd0; rw [tp_9, show nI 9 - 1 = nI 8 by decide +kernel]; exact lv_sub hl [0, 1, 2, 3, 4] rfl
  have J : d ≤ 9 := by subst hd0; omega
  clear hd0
  obtain ⟨k9, hk9⟩ : ∃ z9 : Nat, z9 = d := ⟨_, rfl⟩
  induction k9 using Nat.strongRecOn generalizing d ls with
  | ind k9 ih =>
    refine lv_iload hx hb dT_placeOf_13 (lv_at hl 0 rfl) ?_
    refine lv_if_lt (tgt := 45) hx hb dT_placeOf_15 (by decide) (fun c15 => ?_) (fun c15 => ?_)
    · skip
      have hd0 : d = 0 := by
        rcases Nat.eq_zero_or_pos d with q | q
        · exact q
        · obtain ⟨dd, rfl⟩ : ∃ dd, d = dd + 1 := ⟨d - 1, by omega⟩
          rw [nI_pred] at c15
          exact absurd c15 (nI_pos (by omega))
      refine lv_iload_n hx hb dT_placeOf_45 rfl (lv_at hl 1 rfl) ?_
      exact W.iret (v := (nI (pq os n d (tp d x) i0))) hx hb hr (fun t ht hW => ⟨(nI (pq os n d (tp d x) i0)), rfl, by rw [hd0]; rfl, ht⟩) (fun q h => nomatch h) dT_placeOf_46
    · skip
      obtain ⟨dd, rfl⟩ : ∃ dd, d = dd + 1 := by
        rcases Nat.eq_zero_or_pos d with q | q
        · subst q; exact absurd (show nI 0 - 1 < 0 by decide +kernel) c15
        · exact ⟨d - 1, by omega⟩
      rw [nI_pred, pq_x (by omega)] at hl
      obtain ⟨ba, bb⟩ := bs_at hW hf (show dd ≤ 9 by omega) hi0
      rw [hfi] at ba bb
      refine lv_aload_n hx hb dT_placeOf_18 rfl (lv_at hl 2 rfl) ?_
      refine va_get (D := D) (ci := 1) (v := .ref (ad 3)) (C := RT) (T := TT) (N := 4) hx hb hA9 inT hown hK hP 2 (wx_at (by omega) t2) rfl 0 (by decide) (hA9 _ mfT_11) (fun _ h9 => h9) rfl dT_placeOf_19 ?_
      refine lv_iload hx hb dT_placeOf_22 (lv_at hl 0 rfl) ?_
      refine va_aldq (C := RV) hx hb hK hP 3 1 (wx_at (by omega) t3) rfl (inN) dT_placeOf_24 ?_
      refine W.eq (g2 := F0 m 25 ls [.ref (ad (6 + 3 * dd))]) (by rw [clN, tlv dd (by omega)]; rfl) ?_
      refine lv_iload_n hx hb dT_placeOf_25 rfl (lv_at hl 3 rfl) ?_
      refine lv_iload hx hb dT_placeOf_26 (lv_at hl 0 rfl) ?_
      refine vp_callSi (va_runS (As := [.int (nI dd)]) (rest := [.int (nI x), .ref (ad (6 + 3 * dd))]) ⟨hx, hb, hml, hown, hA9⟩ (c_T_shiftOf l dd (by omega)) (va_cwS 1 hA9 (gS mlT_35 mtT_shiftOf mn_T mkT_shiftOf) rfl rfl rfl (by decide +kernel) ⟨Nat.le_of_ble_eq_true rfl, Nat.le_of_ble_eq_true rfl⟩) ⟨P0_bl, P0_mk⟩ rfl rfl hl.1 rfl (lv_room (Nat.le_of_ble_eq_true rfl)) dT_placeOf_28 ⟨Nat.le_of_ble_eq_true rfl, Nat.le_of_ble_eq_true rfl⟩).run (fun r3 hr3 => ?_)
      obtain rfl : r3 = nI (8 - dd) := hr3
      refine lv_ishr hx hb dT_placeOf_31 ?_
      refine lv_iconst (v := nI 1) hx hb dT_placeOf_32 (by decide +kernel) ?_
      refine lv_iand hx hb dT_placeOf_33 ?_
      refine lv_topi (fun z4 ez4 => ?_)
      obtain rfl : z4 = nI (bN (tb x (8 - dd))) := by rw [ez4]; exact sh1 (by omega) (by omega)
      refine lv_iload_n hx hb dT_placeOf_34 rfl (lv_at hl 1 rfl) ?_
      refine vp_callSi (va_runV (As := [.int (nI (bN (tb x (8 - dd)))), .int (nI (dn (bs os n dd) n (tb x (8 - dd)) (pq os n dd (tp dd x) i0)))]) (rest := []) ⟨hx, hb, hml, hown, hA9⟩ (c_V_up l D cI cO cJ N ad ce (6 + 3 * dd) (by omega) (bs os n dd) n (tL dd (by omega)) (tb x (8 - dd)) (pq os n dd (tp dd x) i0) ba bb) (cwV 2 hA9 (gV mlT_57 miV_up msV_up mn_V mkV_up) rfl rfl rfl (by decide +kernel) ⟨Nat.le_of_ble_eq_true rfl, Nat.le_of_ble_eq_true rfl⟩) ⟨PR_bl, wx_recv hK hP (by omega) (tL dd (by omega)).o rfl, PR_mk hK hP⟩ rfl rfl hl.1 rfl (lv_room (Nat.le_of_ble_eq_true rfl)) dT_placeOf_35 ⟨Nat.le_of_ble_eq_true rfl, Nat.le_of_ble_eq_true rfl⟩).run (fun r5 hr5 => ?_)
      obtain rfl : r5 = nI (pq os n dd (tp dd x) i0) := hr5
      refine lv_istore_n (lv' := [(3, .int (nI (pq os n dd (tp dd x) i0))), (4, .int (nI dd)), (0, .ref (ad 2)), (1, .int (nI x)), (2, .int (nI k0))]) hx hb dT_placeOf_38 rfl hl (by decide) rfl (fun ls hl => ?_)
      refine lv_iinc (v := nI dd - 1) (lv' := [(4, .int (nI dd - 1)), (3, .int (nI (pq os n dd (tp dd x) i0))), (0, .ref (ad 2)), (1, .int (nI x)), (2, .int (nI k0))]) hx hb dT_placeOf_39 hl (k := 1) rfl (by rw [Int32.sub_eq_add_neg]; rfl) (by decide) rfl (fun ls hl => ?_)
      refine lv_goto (tgt := 13) hx hb dT_placeOf_42 (by decide) ?_
      exact ih _ (by omega) (ls := ls) (d := dd) (lv_sub hl [0, 1, 2, 3, 4] rfl) (by omega) rfl
end
section
/-! methods that write: the start, the end, calls, things made -/
/-- the places that a method may write: the world's, and all that come -/
def AW (N : Nat) (ad : Nat → Nat) (sz : Nat) : Nat → Prop := fun q => (∃ k, k < N ∧ q = ad k) ∨ sz ≤ q
theorem aw_D {N : Nat} {ad : Nat → Nat} {ce : Nat → va_E} {sz : Nat} {A : Nat → Prop} (h : va_D A (wx N ad ce)) : va_D (AW N ad sz) (wx N ad ce) := ⟨h.1, fun k q hk => by
  obtain ⟨h1, h2⟩ := wx_some hk
  exact Or.inl ⟨k, h1, congrArg Prod.fst h2⟩⟩
theorem aw_in {N : Nat} {ad : Nat → Nat} {ce : Nat → va_E} {A : Nat → Prop} {H0 H : Heap} {locs : List Loc} (hD : va_D A (wx N ad ce)) (hS : va_S A H0 H locs) (hA : ∀ q, H0.size ≤ q → A q) : ∀ q, AW N ad H.size q → A q := fun q h => by
  rcases h with ⟨k, hk, rfl⟩ | h
  · exact hD.2 k _ (wx_at hk rfl)
  · exact hA q (Nat.le_trans hS.1 h)
def PM (D : va_G) (ty : List (ClassId × FieldType)) (N : Nat) (ad : Nat → Nat) (ce : Nat → va_E) (sz : Nat) (av : List Value) : Array Value → State → Prop := va_Pc av (fun U => U.heap.size = sz ∧ va_P D CLS (wx N ad ce) U.heap ∧ va_K D CLS ty U ∧ va_D (fun _ => True) (wx N ad ce))
theorem PM_bl {D : va_G} {ty : List (ClassId × FieldType)} {N : Nat} {ad : Nat → Nat} {ce : Nat → va_E} {sz : Nat} {av : List Value} : FrameBlind (PM D ty N ad ce sz av) := fun a U g mk q => ⟨q.1, q.2.1, q.2.2.1, va_K.moved (u := U) (U := U.calling g mk a) (Vm.Alike.refl U.vm) q.2.2.2.1, q.2.2.2.2⟩
theorem PM_mk {D : va_G} {ty : List (ClassId × FieldType)} {N : Nat} {ad : Nat → Nat} {ce : Nat → va_E} {av : List Value} {s : State} {H : Heap} {A : Nat → Prop} (hK : va_K D CLS ty s) (hP : va_P D CLS (wx N ad ce) H) (hD : va_D A (wx N ad ce)) : ∀ U : State, U.heap = H → s.WarmedH U.vm → PM D ty N ad ce H.size av av.toArray U := fun U hU hW => ⟨rfl, by rw [hU], by rw [hU]; exact hP, va_K.moved hW.alike hK, hD.weaken (fun _ _ _ _ => trivial)⟩
/-- the world behind a method that writes -/
def BW (D : va_G) (ty : List (ClassId × FieldType)) (N : Nat) (ad : Nat → Nat) (A : Nat → Prop) (ce : Nat → va_E) (t : State) : Prop := va_P D CLS (wx N ad ce) t.heap ∧ va_K D CLS ty t ∧ va_D A (wx N ad ce)
/-- the same where things were made -/
def BG (D : va_G) (ty : List (ClassId × FieldType)) (N : Nat) (A : Nat → Prop) (u : (Nat → Nat) × (Nat → va_E)) (t : State) : Prop := va_P D CLS (wx N u.1 u.2) t.heap ∧ va_K D CLS ty t ∧ va_D A (wx N u.1 u.2)
theorem wx_at' {N : Nat} {ad : Nat → Nat} {ce : Nat → va_E} {k a : Nat} {x : va_E} (h : k < N) (ha : ad k = a) (he : ce k = x) : (wx N ad ce)[k]? = some (a, x) := by rw [← ha]; exact wx_at h he
theorem wx_set' {N : Nat} {ad : Nat → Nat} {ce : Nat → va_E} {k a : Nat} {x : va_E} (h : k < N) (ha : ad k = a) : (wx N ad ce).set k (a, x) = wx N ad (va_up ce k x) := by rw [← ha]; exact wx_set h
section
variable {p : Program} {l : Launch} {e : Env} {R : Room} {s : State} {m : MethodId} {args : Array Value} {below : List Frame} {meth : Method} {c : Code} {H H0 : Heap} {locs : List Loc} {cells slots mc ms pc : Nat} {Q : State → Prop} {D : va_G} {ty : List (ClassId × FieldType)} {N : Nat} {ad : Nat → Nat} {ce : Nat → va_E} {A : Nat → Prop} {ls : Array Slot} {rest st0 : List Value} {a : Array Value} {cc : ByteArray}
theorem cv {post : (Nat → va_E) → Prop} (hr : va_Run p l e R s m args below meth c H locs cells slots mc ms (F0 m pc ls st0) rest (va_Qv post (BW D ty N ad (AW N ad H.size)) (AW N ad H.size) a) (AW N ad H.size)) (hS : va_S A H0 H locs) (hD : va_D A (wx N ad ce)) (hA : ∀ q, H0.size ≤ q → A q)
    (kk : ∀ (ce1 : Nat → va_E) (H : Heap) (locs : List Loc), post ce1 → va_P D CLS (wx N ad ce1) H → va_D A (wx N ad ce1) → va_S A H0 H locs → W p l e R s m args below meth c H locs (cells + mc) (slots + ms) Q (F0 m (pc + 3) ls rest)) : W p l e R s m args below meth c H locs cells slots Q (F0 m pc ls st0) :=
  va_callv hr hS (fun q _ h => aw_in hD hS hA q h) (aw_in hD hS hA) (fun u t H1 locs1 ht hvm hw hB hz hk hS1 => kk u H1 locs1 hw (by rw [← ht]; exact hB.1) (hB.2.2.weaken (fun _ q _ h => aw_in hD hS hA q.1 h)) hS1)
theorem cvi {post : Int32 → (Nat → va_E) → Prop} (hr : va_Run p l e R s m args below meth c H locs cells slots mc ms (F0 m pc ls st0) rest (va_Qi post (BW D ty N ad (AW N ad H.size)) (AW N ad H.size) a) (AW N ad H.size)) (hS : va_S A H0 H locs) (hD : va_D A (wx N ad ce)) (hA : ∀ q, H0.size ≤ q → A q)
    (kk : ∀ (r : Int32) (ce1 : Nat → va_E) (H : Heap) (locs : List Loc), post r ce1 → va_P D CLS (wx N ad ce1) H → va_D A (wx N ad ce1) → va_S A H0 H locs → W p l e R s m args below meth c H locs (cells + mc) (slots + ms) Q (F0 m (pc + 3) ls (.int r :: rest))) : W p l e R s m args below meth c H locs cells slots Q (F0 m pc ls st0) :=
  va_calli hr hS (fun q _ h => aw_in hD hS hA q h) (aw_in hD hS hA) (fun r u t H1 locs1 ht hvm hw hB hz hk hS1 => kk r u H1 locs1 hw (by rw [← ht]; exact hB.1) (hB.2.2.weaken (fun _ q _ h => aw_in hD hS hA q.1 h)) hS1)
/-- a call that makes things -/
theorem cg {N' : Nat} {post : (Nat → Nat) × (Nat → va_E) → Prop} (hr : va_Run p l e R s m args below meth c H locs cells slots mc ms (F0 m pc ls st0) rest (va_Qv post (BG D ty N' (AW N ad H.size)) (AW N ad H.size) a) (AW N ad H.size)) (hS : va_S A H0 H locs) (hD : va_D A (wx N ad ce)) (hA : ∀ q, H0.size ≤ q → A q)
    (kk : ∀ (ad1 : Nat → Nat) (ce1 : Nat → va_E) (H : Heap) (locs : List Loc), post (ad1, ce1) → va_P D CLS (wx N' ad1 ce1) H → va_D A (wx N' ad1 ce1) → va_S A H0 H locs → W p l e R s m args below meth c H locs (cells + mc) (slots + ms) Q (F0 m (pc + 3) ls rest)) : W p l e R s m args below meth c H locs cells slots Q (F0 m pc ls st0) :=
  va_callv hr hS (fun q _ h => aw_in hD hS hA q h) (aw_in hD hS hA) (fun u t H1 locs1 ht hvm hw hB hz hk hS1 => kk u.1 u.2 H1 locs1 hw (by rw [← ht]; exact hB.1) (hB.2.2.weaken (fun _ q _ h => aw_in hD hS hA q.1 h)) hS1)
theorem ix_newI {cI cO cJ : ClassId} (hexec : p.tables.exec = Jvm.exec) (hb : c.code = cc) (harr : (Cond.arrayClass .int).before args s = true) (hK : va_K D CLS (TY cI cO cJ) s) (hP : va_P D CLS (wx N ad ce) H) (hD : va_D A (wx N ad ce)) (hS : va_S A H0 H locs) (hA : ∀ q, H0.size ≤ q → A q)
    {n : Nat} (hn : n ≤ 100000) (hcells : cells + 1 ≤ R.cells) (hslots : slots + n ≤ R.slots) (hdg : decode cc pc = .ok (.newarray .int, 2))
    (kk : ∀ (q : Nat) (H1 : Heap), va_P D CLS (wx (N + 1) (va_up ad N q) (va_up ce N (.inl (cI, n, .inl (fun _ => 0))))) H1 → va_D A (wx (N + 1) (va_up ad N q) (va_up ce N (.inl (cI, n, .inl (fun _ => 0))))) → va_S A H0 H1 locs →
      W p l e R s m args below meth c H1 locs (cells + 1) (slots + n) Q (F0 m (pc + 2) ls (.ref q :: rest))) : W p l e R s m args below meth c H locs cells slots Q (F0 m pc ls (.int (nI n) :: rest)) := by
  refine va_newa hexec hb (atype := .int) harr (ty := .int) rfl hK hP hD hS hA (N' := n) (a0 := (n, .inl (fun _ => 0))) (fun _ => rfl) (nI_pos (by omega)) (nI_clamp (by omega)) (by show n * 4 ≤ _; omega) hcells hslots hdg (fun q cA H1 hK1 hP1 hD1 hS1 => ?_)
  have e1 := (hK1.2 3 (cA, .int) rfl).2
  have e2 := (hK.2 0 (cI, .int) rfl).2
  obtain rfl : cA = cI := Option.some.inj (Eq.trans (Eq.symm e1) e2)
  rw [wx_push] at hP1 hD1
  exact kk q H1 hP1 hD1 hS1
theorem ix_newJ {cI cO cJ : ClassId} (hexec : p.tables.exec = Jvm.exec) (hb : c.code = cc) (harr : (Cond.arrayClass .long).before args s = true) (hK : va_K D CLS (TY cI cO cJ) s) (hP : va_P D CLS (wx N ad ce) H) (hD : va_D A (wx N ad ce)) (hS : va_S A H0 H locs) (hA : ∀ q, H0.size ≤ q → A q)
    {n : Nat} (hn : n ≤ 100000) (hcells : cells + 1 ≤ R.cells) (hslots : slots + n ≤ R.slots) (hdg : decode cc pc = .ok (.newarray .long, 2))
    (kk : ∀ (q : Nat) (H1 : Heap), va_P D CLS (wx (N + 1) (va_up ad N q) (va_up ce N (.inl (cJ, n, .inr (.inl (fun _ => 0)))))) H1 → va_D A (wx (N + 1) (va_up ad N q) (va_up ce N (.inl (cJ, n, .inr (.inl (fun _ => 0)))))) → va_S A H0 H1 locs →
      W p l e R s m args below meth c H1 locs (cells + 1) (slots + n) Q (F0 m (pc + 2) ls (.ref q :: rest))) : W p l e R s m args below meth c H locs cells slots Q (F0 m pc ls (.int (nI n) :: rest)) := by
  refine va_newa hexec hb (atype := .long) harr (ty := .long) rfl hK hP hD hS hA (N' := n) (a0 := (n, .inr (.inl (fun _ => 0)))) (fun _ => rfl) (nI_pos (by omega)) (nI_clamp (by omega)) (by show n * 8 ≤ _; omega) hcells hslots hdg (fun q cA H1 hK1 hP1 hD1 hS1 => ?_)
  have e1 := (hK1.2 3 (cA, .long) rfl).2
  have e2 := (hK.2 2 (cJ, .long) rfl).2
  obtain rfl : cA = cJ := Option.some.inj (Eq.trans (Eq.symm e1) e2)
  rw [wx_push] at hP1 hD1
  exact kk q H1 hP1 hD1 hS1
theorem ix_newO {cI cO cJ : ClassId} {own : String} {index : Nat} (hexec : p.tables.exec = Jvm.exec) (hb : c.code = cc) (hown : s.vm.findClass own = some m.cls) (hclink : (Cond.classLink own index RV).before args s = true) (hover : va_AO RV s) (hK : va_K D CLS (TY cI cO cJ) s) (hP : va_P D CLS (wx N ad ce) H) (hD : va_D A (wx N ad ce)) (hS : va_S A H0 H locs) (hA : ∀ q, H0.size ≤ q → A q)
    {n : Nat} (hn : n ≤ 100000) (hcells : cells + 1 ≤ R.cells) (hslots : slots + n ≤ R.slots) (hdg : decode cc pc = .ok (.anewarray index, 3))
    (kk : ∀ (q : Nat) (H1 : Heap), va_P D CLS (wx (N + 1) (va_up ad N q) (va_up ce N (.inl (cO, n, .inr (.inr (.inr (.inr (fun _ => none)))))))) H1 → va_D A (wx (N + 1) (va_up ad N q) (va_up ce N (.inl (cO, n, .inr (.inr (.inr (.inr (fun _ => none)))))))) → va_S A H0 H1 locs →
      W p l e R s m args below meth c H1 locs (cells + 1) (slots + n) Q (F0 m (pc + 3) ls (.ref q :: rest))) : W p l e R s m args below meth c H locs cells slots Q (F0 m pc ls (.int (nI n) :: rest)) := by
  refine va_newq hexec hb hown hclink hover hK hP hD hS hA (N' := n) (nI_pos (by omega)) (nI_clamp (by omega)) (by omega) hcells hslots hdg (fun q cA H1 hK1 hP1 hD1 hS1 => ?_)
  obtain ⟨-, -, -, -, -, e1⟩ := (hK1.2 3 (cA, .object RV) rfl).2
  obtain ⟨-, -, -, -, -, e2⟩ := (hK.2 1 (cO, .object RV) rfl).2
  obtain rfl : cA = cO := Option.some.inj (Eq.trans (Eq.symm e1) e2)
  rw [wx_push] at hP1 hD1
  exact kk q H1 hP1 hD1 hS1
end
end
section
/-! rows for the building: words of bits, ranks, zeros in front -/
/-- every place holds a number below 512 -/
def A5 (g : Nat → Int32) : Prop := ∀ j, ∃ x, x < 512 ∧ g j = nI x
/-- the number at a place -/
def vl (g : Nat → Int32) (j : Nat) : Nat := (g j).toNatClampNeg
theorem A5.v {g : Nat → Int32} (h : A5 g) (j : Nat) : vl g j < 512 ∧ g j = nI (vl g j) := by
  obtain ⟨x, hx, e⟩ := h j
  have : vl g j = x := by unfold vl; rw [e, nI_clamp (by omega)]
  rw [this]; exact ⟨hx, e⟩
theorem A5.e {g : Nat → Int32} {j x : Nat} (h : g j = nI x) (hx : x < 2147483648) : vl g j = x := by unfold vl; rw [h, nI_clamp hx]
theorem A5.u {g : Nat → Int32} (h : A5 g) {k x : Nat} (hx : x < 512) : A5 (upd g k (nI x)) := fun j => by
  unfold upd
  split
  · exact ⟨x, hx, rfl⟩
  · exact h j
theorem A5.u2 {g g2 : Nat → Int32} (h : A5 g) (h2 : A5 g2) {k i : Nat} : A5 (upd g k (g2 i)) := by
  rw [(h2.v i).2]; exact h.u (h2.v i).1
theorem A5.c {g g2 : Nat → Int32} (h : A5 g) (h2 : A5 g2) {a b n : Nat} : A5 (va_cpy g g2 a b n) := fun j => by
  unfold va_cpy
  split
  · exact h _
  · exact h2 j
theorem A5.z : A5 (fun _ => 0) := fun _ => ⟨0, by omega, nI_0.symm⟩
/-- the bits of a level that is filled from g -/
def bw (g : Nat → Int32) (n s : Nat) : Nat → Bool := fun j => decide (j < n) && tb (vl g j) s
theorem wf_step {w : Nat → Int32} {g : Nat → Int32} {i n sh : Nat} (hi : i < n) (hn : n ≤ 4000) (hg : A5 g) (hs : sh < 32) (hw : ∀ q b, q < 126 → b < 32 → bt (w q) b = (decide (32 * q + b < i) && tb (vl g (32 * q + b)) sh)) :
    ∀ q b, q < 126 → b < 32 → bt (upd w (i / 32) (w (i / 32) ||| (nI (bN (tb (vl g i) sh)) <<< (nI (i % 32) &&& 31))) q) b = (decide (32 * q + b < i + 1) && tb (vl g (32 * q + b)) sh) := by
  intro q b hq hb
  unfold upd
  by_cases h : q = i / 32
  · rw [if_pos h, b_or, hw _ _ (by omega) hb, b_shl _ (by omega) _ hb, ← h]
    by_cases h2 : i % 32 ≤ b
    · rw [bt_1 _ (by omega), decide_eq_true h2, Bool.true_and]
      by_cases h3 : b = i % 32
      · have e : 32 * q + b = i := by omega
        rw [e, decide_eq_false (show ¬ i < i by omega), decide_eq_true (show i < i + 1 by omega), decide_eq_true (show b - i % 32 = 0 by omega)]
        simp
      · rw [decide_eq_false (show ¬ b - i % 32 = 0 by omega), Bool.false_and, Bool.or_false, decide_eq_false (show ¬ 32 * q + b < i by omega), decide_eq_false (show ¬ 32 * q + b < i + 1 by omega)]
    · rw [decide_eq_false h2, Bool.false_and, Bool.or_false, decide_eq_true (show 32 * q + b < i by omega), decide_eq_true (show 32 * q + b < i + 1 by omega)]
  · rw [if_neg h, hw _ _ hq hb]
    congr 1
    exact decide_eq_decide.mpr (by omega)
theorem rk_step {w : Nat → Int32} {bb : Nat → Bool} {q M : Nat} (hq : q < 126) (hw : ∀ q b, q < 126 → b < 32 → bt (w q) b = bb (32 * q + b)) (eM : w q = nI M) : cn bb (32 * q) + cn (bt (nI M)) 32 = cn bb (32 * (q + 1)) := by
  have h := cn_shift bb (32 * q) 32
  rw [show 32 * (q + 1) = 32 * q + 32 by omega, h]
  congr 1
  exact cn_congr (fun i hi => by rw [← eM, hw _ _ hq hi])
theorem bw_end {g : Nat → Int32} {n s : Nat} (hn : n ≤ 4000) : cn (bw g n s) 4032 = cn (bw g n s) n := by
  have h := cn_shift (bw g n s) n (4032 - n)
  rw [show n + (4032 - n) = 4032 by omega] at h
  have h0 : cn (fun i => bw g n s (n + i)) (4032 - n) = 0 := cn_none (fun i _ => by unfold bw; rw [decide_eq_false (by omega), Bool.false_and])
  omega
/-- zeros in front, the ones laid aside: at place i -/
def ZF (g0 : Nat → Int32) (bb : Nat → Bool) (i : Nat) (g h : Nat → Int32) : Prop := (∀ j, i ≤ j → g j = g0 j) ∧ ∀ t, t < i → (bb t = false → g (t - cn bb t) = g0 t) ∧ (bb t = true → h (cn bb t) = g0 t)
theorem ZF.z {g0 g h : Nat → Int32} {bb : Nat → Bool} {i : Nat} (hz : ZF g0 bb i g h) (hb : bb i = false) : ZF g0 bb (i + 1) (upd g (i - cn bb i) (g0 i)) h := by
  have hi := cn_le bb i
  refine ⟨fun j hj => ?_, fun t ht => ⟨fun q => ?_, fun q => ?_⟩⟩
  · unfold upd; rw [if_neg (by omega)]; exact hz.1 j (by omega)
  · rcases Nat.lt_or_ge t i with c | c
    · have h1 := dn_mono bb 0 false (show t + 1 ≤ i by omega)
      rw [dn_s, q, if_pos (by rfl), dn_0, dn_0] at h1
      unfold upd; rw [if_neg (by omega)]; exact (hz.2 t c).1 q
    · obtain rfl : t = i := by omega
      unfold upd; rw [if_pos rfl]
  · exact (hz.2 t (Nat.lt_of_le_of_ne (by omega) (fun q9 => by rw [q9, hb] at q; cases q))).2 q
theorem ZF.o {g0 g h : Nat → Int32} {bb : Nat → Bool} {i : Nat} (hz : ZF g0 bb i g h) (hb : bb i = true) : ZF g0 bb (i + 1) g (upd h (cn bb i) (g0 i)) := by
  refine ⟨fun j hj => hz.1 j (by omega), fun t ht => ⟨fun q => ?_, fun q => ?_⟩⟩
  · exact (hz.2 t (Nat.lt_of_le_of_ne (by omega) (fun q9 => by rw [q9, hb] at q; cases q))).1 q
  · rcases Nat.lt_or_ge t i with c | c
    · have h1 := cn_mono bb (show t + 1 ≤ i by omega)
      rw [cn_t q] at h1
      unfold upd; rw [if_neg (by omega)]; exact (hz.2 t c).2 q
    · obtain rfl : t = i := by omega
      unfold upd; rw [if_pos rfl]
theorem ZF.e {g0 g h : Nat → Int32} {bb : Nat → Bool} {n : Nat} (hz : ZF g0 bb n g h) (h0 : A5 g0) : PT (vl g0) (vl (va_cpy h g 0 (n - cn bb n) (cn bb n))) bb n := by
  intro j hj
  have a1 := cn_le bb n
  have a2 := cn_le bb j
  have key : va_cpy h g 0 (n - cn bb n) (cn bb n) (dn bb n (bb j) j) = g0 j := by
    cases hb : bb j
    · rw [dn_0]
      have h1 := dn_mono bb 0 false (show j + 1 ≤ n by omega)
      rw [dn_s, hb, if_pos (by rfl), dn_0, dn_0] at h1
      unfold va_cpy
      rw [if_neg (by omega)]
      exact (hz.2 j hj).1 hb
    · rw [dn_1]
      have h1 := cn_mono bb (show j + 1 ≤ n by omega)
      rw [cn_t hb] at h1
      unfold va_cpy
      rw [if_pos (by omega), show 0 + (n - cn bb n + cn bb j - (n - cn bb n)) = cn bb j by omega]
      exact (hz.2 j hj).2 hb
  show (va_cpy h g 0 (n - cn bb n) (cn bb n) _).toNatClampNeg = _
  rw [key]; rfl
section
variable {p : Program} {l : Launch} {e : Env} {R : Room} {s : State} {m : MethodId} {args : Array Value} {below : List Frame} {meth : Method} {c : Code} {cells slots : Nat} {Q : State → Prop} {A : Nat → Prop} {g : JFrame}
theorem st0 (kk : ∀ (H : Heap) (locs : List Loc), va_S A s.heap H locs → H = s.heap → W p l e R s m args below meth c H locs cells slots Q g) : W p l e R s m args below meth c s.heap [] cells slots Q g := kk s.heap [] va_S.rf rfl
end
theorem bz_t {x : Bool} (h : ¬ nI (bN x) = 0) : x = true := by
  cases x
  · exact absurd nI_0 h
  · rfl
theorem bz_f {x : Bool} (h : nI (bN x) = 0) : x = false := by
  cases x
  · rfl
  · exact absurd h (by decide +kernel)
theorem LV.cg {cI : ClassId} {ad : Nat → Nat} {ce ce1 : Nat → va_E} {k : Nat} {bb : Nat → Bool} {n : Nat} (h : LV cI ad ce k bb n) (h0 : ce1 k = ce k) (h1 : ce1 (k + 1) = ce (k + 1)) (h2 : ce1 (k + 2) = ce (k + 2)) : LV cI ad ce1 k bb n := by
  obtain ⟨w, r, a0, a1, a2, a3⟩ := h
  exact ⟨w, r, h0.trans a0, h1.trans a1, h2.trans a2, a3⟩
end
section
set_option maxHeartbeats 4000000 in
set_option maxRecDepth 100000 in
theorem c_F_fill (l : Launch) (D : va_G) (cI cO cJ : ClassId) (N : Nat) (ad : Nat → Nat) (ce : Nat → va_E) (sz : Nat) (k : Nat) (hk : k < N) (n : Nat) (hn : n ≤ 4000) (g : Nat → Int32) (h0 : ce k = .inl (cI, n, .inl g)) (x : Int32) : Met l yF_fill (.code yF_fill bF_fill 4 none :: WA) ({ frames := 0, cells := 0, slots := 0, locals := 0 }) (PM D (TY cI cO cJ) N ad ce sz [.ref (ad k), .int (x)]) (va_Qv (fun (ce1 : Nat → va_E) => (∀ j, j ≠ k → ce1 j = ce j) ∧ ∃ g1 : Nat → Int32, ce1 k = .inl (cI, n, .inl g1) ∧ ∀ i, i < n → g1 i = x) (BW D (TY cI cO cJ) N ad (AW N ad sz)) (AW N ad sz)) 0 0 (AW N ad sz) := by
  refine Met.ofW (cc := bF_fill) (maxL := 4) (ret := none) (by decide) rfl ?_
  intro p e s m args below meth c s₁ B hml hv
  obtain ⟨rfl, hsz, hP, hK, hD0⟩ := hv
  have hx := B.exec
  have hb := B.bytes
  have hr := B.returns
  have hA9 : ∀ w ∈ WA, w.before _ s = true := fun w h => atoms_spec (ws := .code yF_fill bF_fill 4 none :: WA) B.pre w (List.mem_cons_of_mem _ h)
  have hown : s.vm.findClass RF = some m.cls := findClass_of_methodNamed B.named
  have hlocks := B.notSynchronized
  subst hsz
  have hD := aw_D (sz := s.heap.size) hD0
  generalize hAe : AW N ad s.heap.size = A at hD ⊢
  have hA : ∀ q, s.heap.size ≤ q → A q := fun q h => by rw [← hAe]; exact Or.inr h
  clear hAe hD0
  have hl := lv_entry ([.ref (ad k), .int (x)]) (n := 4) (Nat.le_of_ble_eq_true rfl)
  rw [lg_entry_eq]
  generalize (lg_sl ([.ref (ad k), .int (x)]) ++ List.replicate (4 - (lg_sl ([.ref (ad k), .int (x)])).length) Slot.unset).toArray = ls at hl ⊢
  have hl : lv_has ls 4 [(0, .ref (ad k)), (1, .int (x))] := hl
  refine st0 (A := A) (fun H locs hS hH => ?_)
  rw [← hH] at hP
  clear hH
  refine lv_iconst (v := nI 0) hx hb dF_fill_0 (by decide +kernel) ?_
  refine lv_istore_n (lv' := [(2, .int (nI 0)), (0, .ref (ad k)), (1, .int (x))]) hx hb dF_fill_1 rfl hl (by decide) rfl (fun ls hl => ?_)
  refine lv_aload_n hx hb dF_fill_2 rfl (lv_at hl 1 rfl) ?_
  refine va_alen (v := nI n) hx hb hK hP k 0 (wx_at (by omega) h0) rfl rfl dF_fill_3 ?_
  refine lv_istore_n (lv' := [(3, .int (nI n)), (2, .int (nI 0)), (0, .ref (ad k)), (1, .int (x))]) hx hb dF_fill_4 rfl hl (by decide) rfl (fun ls hl => ?_)
  obtain ⟨cl, hcl0⟩ : ∃ z : Nat → va_E, ce = z := ⟨_, rfl⟩
  obtain ⟨i, hi0⟩ : ∃ z : Nat, (0) = z := ⟨_, rfl⟩
  obtain ⟨g1, hg10⟩ : ∃ z : Nat → Int32, (g) = z := ⟨_, rfl⟩
  replace hl : lv_has ls 4 [(3, .int (nI n)), (2, .int (nI i)), (0, .ref (ad k)), (1, .int (x))] := by subst hi0 hg10; exact lv_sub hl [0, 1, 2, 3] rfl
  have J : (∀ j, j ≠ k → cl j = ce j) ∧ cl k = .inl (cI, n, .inl g1) ∧ i ≤ n ∧ ∀ j, j < i → g1 j = x := by
    subst hcl0 hi0 hg10
    exact ⟨(fun j g0 => rfl), h0, ⟨by omega, fun j h => absurd h (by omega)⟩⟩
  rw [hcl0] at hP hD
  clear hcl0 hi0 hg10
  obtain ⟨k9, hk9⟩ : ∃ z9 : Nat, z9 = n - i := ⟨_, rfl⟩
  induction k9 using Nat.strongRecOn generalizing i g1 cl H locs ls with
  | ind k9 ih =>
    obtain ⟨fr2, q1, JJ⟩ := J
    obtain ⟨j1, j2⟩ := JJ
    refine lv_iload_n hx hb dF_fill_5 rfl (lv_at hl 1 rfl) ?_
    refine lv_iload_n hx hb dF_fill_6 rfl (lv_at hl 0 rfl) ?_
    refine lv_icmp_ge (tgt := 20) hx hb dF_fill_7 (by decide) (fun c7 => ?_) (fun c7 => ?_)
    · skip
      have d1 := leN c7
      exact W.vret hx hb hr (fun t ht hW => ⟨⟨cl, rfl, ⟨fr2, g1, q1, fun j hj => j2 j (by omega)⟩, by rw [ht]; exact hP, va_K.moved hW.alike hK, hD⟩, hS.F ht⟩) hS.2.2 dF_fill_20
    · skip
      have d1 := nleN c7
      refine lv_aload_n hx hb dF_fill_10 rfl (lv_at hl 2 rfl) ?_
      refine lv_iload_n hx hb dF_fill_11 rfl (lv_at hl 1 rfl) ?_
      refine lv_iload_n hx hb dF_fill_12 rfl (lv_at hl 3 rfl) ?_
      refine va_iast hx hb hK hP hD hS k 0 (wx_at (by omega) q1) rfl (inN) dF_fill_13 (fun H locs hP hD hS => ?_)
      rw [clN (a := i)] at hP hD
      obtain ⟨ce1, hce1⟩ : ∃ z9, z9 = va_up cl k (.inl (cI, n, .inl (upd g1 i (x)))) := ⟨_, rfl⟩
      rw [wx_set (by omega), ← hce1] at hP hD
      have q3 : ce1 k = .inl (cI, n, .inl (upd g1 i (x))) := by rw [hce1, va_up_self]
      have fr4 : ∀ j, j ≠ k → ce1 j = ce j := fun j h0 => by rw [hce1, va_up_ne _ _ h0]; exact fr2 j h0
      refine lv_iinc (v := nI (i + 1)) (lv' := [(2, .int (nI (i + 1))), (3, .int (nI n)), (0, .ref (ad k)), (1, .int (x))]) hx hb dF_fill_14 hl (k := 1) rfl (nI_1 i) (by decide) rfl (fun ls hl => ?_)
      refine lv_goto (tgt := 5) hx hb dF_fill_17 (by decide) ?_
      exact ih _ (by omega) (ls := ls) (cl := ce1) (H := H) (locs := locs) (i := i + 1) (g1 := upd g1 i x) (hP := hP) (hD := hD) (hS := hS) (hl := lv_sub hl [1, 0, 2, 3] rfl) (J := ⟨(fun j g0 => fr4 j g0), q3, ⟨by omega, fun j hj => by unfold upd; split; rfl; exact j2 j (by omega)⟩⟩) (hk9 := rfl)

set_option maxHeartbeats 4000000 in
set_option maxRecDepth 100000 in
theorem c_V_fill (l : Launch) (D : va_G) (cI cO cJ : ClassId) (N : Nat) (ad : Nat → Nat) (ce : Nat → va_E) (sz : Nat) (k ka : Nat) (hk : k + 2 < N) (hka : ka < N) (hne : ka ≠ k ∧ ka ≠ k + 1 ∧ ka ≠ k + 2) (n : Nat) (hn : n ≤ 4000) (sh : Nat) (hs : sh < 9) (g : Nat → Int32) (hg : A5 g) (w0 r0 : Nat → Int32) (z1 z2 : Int32) (h0 : ce k = .inr (0, [.ref (ad (k + 1)), .ref (ad (k + 2)), .int (z1), .int (z2)])) (h1 : ce (k + 1) = .inl (cI, 126, .inl w0)) (h2 : ce (k + 2) = .inl (cI, 126, .inl r0)) (h3 : ce ka = .inl (cI, 4000, .inl g)) : Met l yV_fill (.code yV_fill bV_fill 6 none :: WA) ({ frames := 1, cells := 0, slots := 0, locals := 23 }) (PM D (TY cI cO cJ) N ad ce sz [.ref (ad k), .ref (ad ka), .int (nI n), .int (nI sh)]) (va_Qv (fun (ce1 : Nat → va_E) => (∀ j, j ≠ k → j ≠ k + 1 → j ≠ k + 2 → ce1 j = ce j) ∧ LV cI ad ce1 k (bw g n sh) n) (BW D (TY cI cO cJ) N ad (AW N ad sz)) (AW N ad sz)) 0 0 (AW N ad sz) := by
  refine Met.ofW (cc := bV_fill) (maxL := 6) (ret := none) (by decide) rfl ?_
  intro p e s m args below meth c s₁ B hml hv
  obtain ⟨rfl, hsz, hP, hK, hD0⟩ := hv
  have hx := B.exec
  have hb := B.bytes
  have hr := B.returns
  have hA9 : ∀ w ∈ WA, w.before _ s = true := fun w h => atoms_spec (ws := .code yV_fill bV_fill 6 none :: WA) B.pre w (List.mem_cons_of_mem _ h)
  have hown : s.vm.findClass RV = some m.cls := findClass_of_methodNamed B.named
  have hlocks := B.notSynchronized
  subst hsz
  have hD := aw_D (sz := s.heap.size) hD0
  generalize hAe : AW N ad s.heap.size = A at hD ⊢
  have hA : ∀ q, s.heap.size ≤ q → A q := fun q h => by rw [← hAe]; exact Or.inr h
  clear hAe hD0
  have hl := lv_entry ([.ref (ad k), .ref (ad ka), .int (nI n), .int (nI sh)]) (n := 6) (Nat.le_of_ble_eq_true rfl)
  rw [lg_entry_eq]
  generalize (lg_sl ([.ref (ad k), .ref (ad ka), .int (nI n), .int (nI sh)]) ++ List.replicate (6 - (lg_sl ([.ref (ad k), .ref (ad ka), .int (nI n), .int (nI sh)])).length) Slot.unset).toArray = ls at hl ⊢
  have hl : lv_has ls 6 [(0, .ref (ad k)), (1, .ref (ad ka)), (2, .int (nI n)), (3, .int (nI sh))] := hl
  refine st0 (A := A) (fun H locs hS hH => ?_)
  rw [← hH] at hP
  clear hH
  refine lv_aload_n hx hb dV_fill_0 rfl (lv_at hl 0 rfl) ?_
  refine va_get (D := D) (ci := 0) (v := .ref (ad (k + 1))) (C := RV) (T := TV) (N := 4) hx hb hA9 inV hown hK hP k (wx_at (by omega) h0) rfl 0 (by decide) (hA9 _ mfV_9) (fun _ h9 => h9) rfl dV_fill_1 ?_
  refine lv_iconst (v := nI 0) hx hb dV_fill_4 (by decide +kernel) ?_
  refine cv (va_runS (As := [.ref (ad (k + 1)), .int (nI 0)]) (rest := []) ⟨hx, hb, hml, hown, hA9⟩ (c_F_fill l D cI cO cJ N ad ce H.size (k + 1) (by omega) 126 (by omega) w0 h1 (nI 0)) (va_cwS 2 hA9 (gS mlV_25 mtF_fill mn_F mkF_fill) rfl rfl rfl (by decide +kernel) ⟨Nat.le_of_ble_eq_true rfl, Nat.le_of_ble_eq_true rfl⟩) ⟨PM_bl, PM_mk hK hP hD⟩ rfl rfl hl.1 rfl (lv_room (Nat.le_of_ble_eq_true rfl)) dV_fill_5 ⟨Nat.le_of_ble_eq_true rfl, Nat.le_of_ble_eq_true rfl⟩) hS hD hA (fun ce1 H locs hpost hP hD hS => ?_)
  obtain ⟨pf, w1, pw, pz⟩ := hpost
  have q2 : ce1 k = .inr (0, [.ref (ad (k + 1)), .ref (ad (k + 2)), .int (z1), .int (z2)]) := (pf k (by omega)).trans h0
  have q3 : ce1 (k + 2) = .inl (cI, 126, .inl r0) := (pf (k + 2) (by omega)).trans h2
  have q4 : ce1 ka = .inl (cI, 4000, .inl g) := (pf ka (by omega)).trans h3
  have fr5 : ∀ j, j ≠ (k + 1) → ce1 j = ce j := fun j g0 => (pf j g0)
  refine lv_iconst (v := nI 0) hx hb dV_fill_8 (by decide +kernel) ?_
  refine lv_istore (lv' := [(4, .int (nI 0)), (0, .ref (ad k)), (1, .ref (ad ka)), (2, .int (nI n)), (3, .int (nI sh))]) hx hb dV_fill_9 hl (by decide) rfl (fun ls hl => ?_)
  obtain ⟨cl, hcl0⟩ : ∃ z : Nat → va_E, ce1 = z := ⟨_, rfl⟩
  obtain ⟨i, hi0⟩ : ∃ z : Nat, (0) = z := ⟨_, rfl⟩
  obtain ⟨w2, hw20⟩ : ∃ z : Nat → Int32, (w1) = z := ⟨_, rfl⟩
  replace hl : lv_has ls 6 [(4, .int (nI i)), (0, .ref (ad k)), (1, .ref (ad ka)), (2, .int (nI n)), (3, .int (nI sh))] := by subst hi0 hw20; exact lv_sub hl [0, 1, 2, 3, 4] rfl
  have J : (∀ j, j ≠ (k + 1) → cl j = ce j) ∧ cl (k + 1) = .inl (cI, 126, .inl w2) ∧ i ≤ n ∧ ∀ q b, q < 126 → b < 32 → bt (w2 q) b = (decide (32 * q + b < i) && tb (vl g (32 * q + b)) sh) := by
    subst hcl0 hi0 hw20
    exact ⟨(fun j g0 => fr5 j g0), pw, ⟨by omega, fun q b hq hb => by rw [pz q hq, nI_0, b_0]; simp⟩⟩
  rw [hcl0] at hP hD
  clear hcl0 hi0 hw20
  obtain ⟨k9, hk9⟩ : ∃ z9 : Nat, z9 = n - i := ⟨_, rfl⟩
  induction k9 using Nat.strongRecOn generalizing i w2 cl H locs ls with
  | ind k9 ih =>
    obtain ⟨fr7, q6, JJ⟩ := J
    obtain ⟨j1, j2⟩ := JJ
    refine lv_iload hx hb dV_fill_11 (lv_at hl 0 rfl) ?_
    refine lv_iload_n hx hb dV_fill_13 rfl (lv_at hl 3 rfl) ?_
    refine lv_icmp_ge (tgt := 50) hx hb dV_fill_14 (by decide) (fun c14 => ?_) (fun c14 => ?_)
    · skip
      have d1 := leN c14
      have hin9 : i = n := by omega
      have hw : ∀ q b, q < 126 → b < 32 → bt (w2 q) b = bw g n sh (32 * q + b) := fun q b hq hb => by rw [j2 q b hq hb, hin9]; rfl
      refine lv_iconst (v := nI 0) hx hb dV_fill_50 (by decide +kernel) ?_
      refine lv_istore (lv' := [(4, .int (nI 0)), (0, .ref (ad k)), (1, .ref (ad ka)), (2, .int (nI n)), (3, .int (nI sh))]) hx hb dV_fill_51 hl (by decide) rfl (fun ls hl => ?_)
      refine lv_iconst (v := nI 0) hx hb dV_fill_53 (by decide +kernel) ?_
      refine lv_istore (lv' := [(5, .int (nI 0)), (4, .int (nI 0)), (0, .ref (ad k)), (1, .ref (ad ka)), (2, .int (nI n)), (3, .int (nI sh))]) hx hb dV_fill_54 hl (by decide) rfl (fun ls hl => ?_)
      obtain ⟨cl, hcl0⟩ : ∃ z : Nat → va_E, cl = z := ⟨_, rfl⟩
      obtain ⟨q, hq0⟩ : ∃ z : Nat, (0) = z := ⟨_, rfl⟩
      obtain ⟨r2, hr20⟩ : ∃ z : Nat → Int32, (r0) = z := ⟨_, rfl⟩
      replace hl : lv_has ls 6 [(5, .int (nI q)), (4, .int (nI (cn (bw g n sh) (32 * q)))), (0, .ref (ad k)), (1, .ref (ad ka)), (2, .int (nI n)), (3, .int (nI sh))] := by subst hq0 hr20; exact lv_sub hl [0, 1, 2, 3, 4, 5] rfl
      have J : (∀ j, j ≠ (k + 1) → j ≠ (k + 2) → cl j = ce j) ∧ cl (k + 1) = .inl (cI, 126, .inl w2) ∧ cl (k + 2) = .inl (cI, 126, .inl r2) ∧ q ≤ 126 ∧ ∀ t, t < q → r2 t = nI (cn (bw g n sh) (32 * t)) := by
        subst hcl0 hq0 hr20
        exact ⟨(fun j g0 g1 => fr7 j g0), q6, ((fr7 (k + 2) (by omega)).trans h2), ⟨by omega, fun t h => absurd h (by omega)⟩⟩
      rw [hcl0] at hP hD
      clear hcl0 hq0 hr20
      obtain ⟨k9, hk9⟩ : ∃ z9 : Nat, z9 = 126 - q := ⟨_, rfl⟩
      induction k9 using Nat.strongRecOn generalizing q r2 cl H locs ls with
      | ind k9 ih =>
        obtain ⟨fr10, q8, q9, JJ⟩ := J
        obtain ⟨j3, j4⟩ := JJ
        refine lv_iload hx hb dV_fill_56 (lv_at hl 0 rfl) ?_
        refine lv_bipush (v := nI 126) hx hb dV_fill_58 (by decide +kernel) ?_
        refine lv_icmp_ge (tgt := 93) hx hb dV_fill_60 (by decide) (fun c60 => ?_) (fun c60 => ?_)
        · skip
          have d2 := leN c60
          have hq9 : q = 126 := by omega
          refine lv_aload_n hx hb dV_fill_93 rfl (lv_at hl 2 rfl) ?_
          refine lv_iload_n hx hb dV_fill_94 rfl (lv_at hl 4 rfl) ?_
          refine va_put (D := D) (ci := 0) (v := .int (nI n)) (ty := .int) (C := RV) (T := TV) (N := 4) hx hb hA9 inV tyV tyV_ok nmV hown hK hP hD hS k (wx_at (by omega) ((fr10 k (by omega) (by omega)).trans h0)) rfl 2 (by decide) (hA9 _ mfV_18) (fun _ h9 => h9) rfl (by decide +kernel) rfl rfl (Nat.le_of_ble_eq_true rfl) dV_fill_95 (fun H locs hP hD hS => ?_)
          replace hP : va_P D CLS ((wx N ad cl).set k (ad k, .inr (0, [.ref (ad (k + 1)), .ref (ad (k + 2)), .int (nI n), .int (z2)]))) H := hP
          replace hD : va_D A ((wx N ad cl).set k (ad k, .inr (0, [.ref (ad (k + 1)), .ref (ad (k + 2)), .int (nI n), .int (z2)]))) := hD
          obtain ⟨ce2, hce2⟩ : ∃ z9, z9 = va_up cl k (.inr (0, [.ref (ad (k + 1)), .ref (ad (k + 2)), .int (nI n), .int (z2)])) := ⟨_, rfl⟩
          rw [wx_set (by omega), ← hce2] at hP hD
          have q11 : ce2 (k + 1) = .inl (cI, 126, .inl w2) := by rw [hce2, va_up_ne _ _ (by omega)]; exact q8
          have q12 : ce2 (k + 2) = .inl (cI, 126, .inl r2) := by rw [hce2, va_up_ne _ _ (by omega)]; exact q9
          have q13 : ce2 ka = .inl (cI, 4000, .inl g) := by rw [hce2, va_up_ne _ _ (by omega)]; exact ((fr10 ka (by omega) (by omega)).trans h3)
          have q14 : ce2 k = .inr (0, [.ref (ad (k + 1)), .ref (ad (k + 2)), .int (nI n), .int (z2)]) := by rw [hce2, va_up_self]
          have fr15 : ∀ j, j ≠ (k + 1) → j ≠ (k + 2) → j ≠ k → ce2 j = ce j := fun j h0 h1 h2 => by rw [hce2, va_up_ne _ _ h2]; exact fr10 j h0 h1
          refine lv_aload_n hx hb dV_fill_98 rfl (lv_at hl 2 rfl) ?_
          refine lv_iload_n hx hb dV_fill_99 rfl (lv_at hl 4 rfl) ?_
          refine lv_iload hx hb dV_fill_100 (lv_at hl 1 rfl) ?_
          refine lv_isub hx hb dV_fill_102 ?_
          refine lv_topi (fun z16 ez16 => ?_)
          obtain rfl : z16 = nI (n - cn (bw g n sh) n) := by rw [ez16]; rw [hq9, show 32 * 126 = 4032 from rfl, bw_end hn]; exact pk_sub (cn_le _ _)
          refine va_put (D := D) (ci := 0) (v := .int (nI (n - cn (bw g n sh) n))) (ty := .int) (C := RV) (T := TV) (N := 4) hx hb hA9 inV tyV tyV_ok nmV hown hK hP hD hS k (wx_at (by omega) q14) rfl 3 (by decide) (hA9 _ mfV_22) (fun _ h9 => h9) rfl (by decide +kernel) rfl rfl (Nat.le_of_ble_eq_true rfl) dV_fill_103 (fun H locs hP hD hS => ?_)
          replace hP : va_P D CLS ((wx N ad ce2).set k (ad k, .inr (0, [.ref (ad (k + 1)), .ref (ad (k + 2)), .int (nI n), .int (nI (n - cn (bw g n sh) n))]))) H := hP
          replace hD : va_D A ((wx N ad ce2).set k (ad k, .inr (0, [.ref (ad (k + 1)), .ref (ad (k + 2)), .int (nI n), .int (nI (n - cn (bw g n sh) n))]))) := hD
          obtain ⟨ce3, hce3⟩ : ∃ z9, z9 = va_up ce2 k (.inr (0, [.ref (ad (k + 1)), .ref (ad (k + 2)), .int (nI n), .int (nI (n - cn (bw g n sh) n))])) := ⟨_, rfl⟩
          rw [wx_set (by omega), ← hce3] at hP hD
          have q17 : ce3 (k + 1) = .inl (cI, 126, .inl w2) := by rw [hce3, va_up_ne _ _ (by omega)]; exact q11
          have q18 : ce3 (k + 2) = .inl (cI, 126, .inl r2) := by rw [hce3, va_up_ne _ _ (by omega)]; exact q12
          have q19 : ce3 ka = .inl (cI, 4000, .inl g) := by rw [hce3, va_up_ne _ _ (by omega)]; exact q13
          have q20 : ce3 k = .inr (0, [.ref (ad (k + 1)), .ref (ad (k + 2)), .int (nI n), .int (nI (n - cn (bw g n sh) n))]) := by rw [hce3, va_up_self]
          have fr21 : ∀ j, j ≠ (k + 1) → j ≠ (k + 2) → j ≠ k → ce3 j = ce j := fun j h0 h1 h2 => by rw [hce3, va_up_ne _ _ h2]; exact fr15 j h0 h1 h2
          exact W.vret hx hb hr (fun t ht hW => ⟨⟨ce3, rfl, ⟨(fun j g0 g1 g2 => fr21 j g1 g2 g0), w2, r2, q20, q17, q18, hw, fun t ht => j4 t (by omega), hn⟩, by rw [ht]; exact hP, va_K.moved hW.alike hK, hD⟩, hS.F ht⟩) hS.2.2 dV_fill_106
        · skip
          have d2 := nleN c60
          refine lv_aload_n hx hb dV_fill_63 rfl (lv_at hl 2 rfl) ?_
          refine va_get (D := D) (ci := 0) (v := .ref (ad (k + 2))) (C := RV) (T := TV) (N := 4) hx hb hA9 inV hown hK hP k (wx_at (by omega) ((fr10 k (by omega) (by omega)).trans h0)) rfl 1 (by decide) (hA9 _ mfV_15) (fun _ h9 => h9) rfl dV_fill_64 ?_
          refine lv_iload hx hb dV_fill_67 (lv_at hl 0 rfl) ?_
          refine lv_iload hx hb dV_fill_69 (lv_at hl 1 rfl) ?_
          refine va_iast hx hb hK hP hD hS (k + 2) 0 (wx_at (by omega) q9) rfl (inN) dV_fill_71 (fun H locs hP hD hS => ?_)
          rw [clN (a := q)] at hP hD
          obtain ⟨ce2, hce2⟩ : ∃ z9, z9 = va_up cl (k + 2) (.inl (cI, 126, .inl (upd r2 q (nI (cn (bw g n sh) (32 * q)))))) := ⟨_, rfl⟩
          rw [wx_set (by omega), ← hce2] at hP hD
          have q22 : ce2 k = .inr (0, [.ref (ad (k + 1)), .ref (ad (k + 2)), .int (z1), .int (z2)]) := by rw [hce2, va_up_ne _ _ (by omega)]; exact ((fr10 k (by omega) (by omega)).trans h0)
          have q23 : ce2 (k + 1) = .inl (cI, 126, .inl w2) := by rw [hce2, va_up_ne _ _ (by omega)]; exact q8
          have q24 : ce2 ka = .inl (cI, 4000, .inl g) := by rw [hce2, va_up_ne _ _ (by omega)]; exact ((fr10 ka (by omega) (by omega)).trans h3)
          have q25 : ce2 (k + 2) = .inl (cI, 126, .inl (upd r2 q (nI (cn (bw g n sh) (32 * q))))) := by rw [hce2, va_up_self]
          have fr26 : ∀ j, j ≠ (k + 1) → j ≠ (k + 2) → ce2 j = ce j := fun j h0 h1 => by rw [hce2, va_up_ne _ _ h1]; exact fr10 j h0 h1
          refine lv_iload hx hb dV_fill_72 (lv_at hl 1 rfl) ?_
          refine lv_aload_n hx hb dV_fill_74 rfl (lv_at hl 2 rfl) ?_
          refine va_get (D := D) (ci := 0) (v := .ref (ad (k + 1))) (C := RV) (T := TV) (N := 4) hx hb hA9 inV hown hK hP k (wx_at (by omega) q22) rfl 0 (by decide) (hA9 _ mfV_9) (fun _ h9 => h9) rfl dV_fill_75 ?_
          refine lv_iload hx hb dV_fill_78 (lv_at hl 0 rfl) ?_
          obtain ⟨M, hM, eM⟩ := of32 (w2 q)
          refine va_iald hx hb hK hP (k + 1) 0 (wx_at (by omega) q23) rfl (inN) dV_fill_80 ?_
          refine lv_topi (fun z27 ez27 => ?_)
          obtain rfl : z27 = nI M := by rw [ez27, clN]; exact eM
          refine vp_callSi (va_runS (As := [.int (nI M)]) (rest := [.int (nI (cn (bw g n sh) (32 * q)))]) ⟨hx, hb, hml, hown, hA9⟩ (c_J_bitCount l M hM) (va_cwS 1 hA9 (gS mlV_31 mtJ_bitCount mn_J mkJ_bitCount) rfl rfl rfl (by decide +kernel) ⟨Nat.le_of_ble_eq_true rfl, Nat.le_of_ble_eq_true rfl⟩) ⟨P0_bl, P0_mk⟩ rfl rfl hl.1 rfl (lv_room (Nat.le_of_ble_eq_true rfl)) dV_fill_81 ⟨Nat.le_of_ble_eq_true rfl, Nat.le_of_ble_eq_true rfl⟩).run (fun r28 hr28 => ?_)
          obtain rfl : r28 = nI (cn (bt (nI M)) 32) := hr28
          refine lv_iadd hx hb dV_fill_84 ?_
          refine lv_topi (fun z29 ez29 => ?_)
          obtain rfl : z29 = nI (cn (bw g n sh) (32 * (q + 1))) := by rw [ez29]; rw [nI_add, rk_step (by omega) hw eM]
          refine lv_istore (lv' := [(4, .int (nI (cn (bw g n sh) (32 * (q + 1))))), (5, .int (nI q)), (0, .ref (ad k)), (1, .ref (ad ka)), (2, .int (nI n)), (3, .int (nI sh))]) hx hb dV_fill_85 hl (by decide) rfl (fun ls hl => ?_)
          refine lv_iinc (v := nI (q + 1)) (lv' := [(5, .int (nI (q + 1))), (4, .int (nI (cn (bw g n sh) (32 * (q + 1))))), (0, .ref (ad k)), (1, .ref (ad ka)), (2, .int (nI n)), (3, .int (nI sh))]) hx hb dV_fill_87 hl (k := 1) rfl (nI_1 q) (by decide) rfl (fun ls hl => ?_)
          refine lv_goto (tgt := 56) hx hb dV_fill_90 (by decide) ?_
          exact ih _ (by omega) (ls := ls) (cl := ce2) (H := H) (locs := locs) (q := q + 1) (r2 := upd r2 q (nI (cn (bw g n sh) (32 * q)))) (hP := hP) (hD := hD) (hS := hS) (hl := lv_sub hl [0, 1, 2, 3, 4, 5] rfl) (J := ⟨(fun j g0 g1 => fr26 j g0 g1), q23, q25, ⟨by omega, fun t ht => if h9 : t = q then (by rw [h9]; exact pk_us) else (by rw [pk_un h9]; exact j4 t (by omega))⟩⟩) (hk9 := rfl)
    · skip
      have d1 := nleN c14
      refine lv_aload_n hx hb dV_fill_17 rfl (lv_at hl 1 rfl) ?_
      refine va_get (D := D) (ci := 0) (v := .ref (ad (k + 1))) (C := RV) (T := TV) (N := 4) hx hb hA9 inV hown hK hP k (wx_at (by omega) ((fr7 k (by omega)).trans h0)) rfl 0 (by decide) (hA9 _ mfV_9) (fun _ h9 => h9) rfl dV_fill_18 ?_
      refine lv_iload hx hb dV_fill_21 (lv_at hl 0 rfl) ?_
      refine lv_bipush (v := nI 32) hx hb dV_fill_23 (by decide +kernel) ?_
      refine lv_idiv hx hb dV_fill_25 (by decide +kernel) ?_
      refine lv_topi (fun z30 ez30 => ?_)
      obtain rfl : z30 = nI (i / 32) := by rw [ez30]; exact pk_div (by omega) (by omega) (by omega)
      refine lv_dup2_11 hx hb dV_fill_26 rfl rfl ?_
      refine va_iald hx hb hK hP (k + 1) 0 (wx_at (by omega) q6) rfl (inN) dV_fill_27 ?_
      refine lv_topi (fun z31 ez31 => ?_)
      obtain rfl : z31 = w2 (i / 32) := by rw [ez31, clN]
      refine lv_aload_n hx hb dV_fill_28 rfl (lv_at hl 2 rfl) ?_
      refine lv_iload hx hb dV_fill_29 (lv_at hl 0 rfl) ?_
      refine va_iald hx hb hK hP ka 0 (wx_at (by omega) ((fr7 ka (by omega)).trans h3)) rfl (inN) dV_fill_31 ?_
      refine lv_topi (fun z32 ez32 => ?_)
      obtain rfl : z32 = nI (vl g i) := by rw [ez32, clN]; exact (hg.v i).2
      refine lv_iload_n hx hb dV_fill_32 rfl (lv_at hl 4 rfl) ?_
      refine lv_ishr hx hb dV_fill_33 ?_
      refine lv_iconst (v := nI 1) hx hb dV_fill_34 (by decide +kernel) ?_
      refine lv_iand hx hb dV_fill_35 ?_
      refine lv_topi (fun z33 ez33 => ?_)
      obtain rfl : z33 = nI (bN (tb (vl g i) sh)) := by rw [ez33]; exact sh1 (by have := (hg.v i).1; omega) (by omega)
      refine lv_iload hx hb dV_fill_36 (lv_at hl 0 rfl) ?_
      refine lv_bipush (v := nI 32) hx hb dV_fill_38 (by decide +kernel) ?_
      refine lv_irem hx hb dV_fill_40 (by decide +kernel) ?_
      refine lv_topi (fun z34 ez34 => ?_)
      obtain rfl : z34 = nI (i % 32) := by rw [ez34]; exact pk_rem (by omega) (by omega) (by omega)
      refine lv_ishl hx hb dV_fill_41 ?_
      refine lv_ior hx hb dV_fill_42 ?_
      refine va_iast hx hb hK hP hD hS (k + 1) 0 (wx_at (by omega) q6) rfl (inN) dV_fill_43 (fun H locs hP hD hS => ?_)
      rw [clN (a := (i / 32))] at hP hD
      obtain ⟨ce2, hce2⟩ : ∃ z9, z9 = va_up cl (k + 1) (.inl (cI, 126, .inl (upd w2 (i / 32) ((w2 (i / 32)) ||| ((nI (bN (tb (vl g i) sh))) <<< ((nI (i % 32)) &&& 31)))))) := ⟨_, rfl⟩
      rw [wx_set (by omega), ← hce2] at hP hD
      have q35 : ce2 k = .inr (0, [.ref (ad (k + 1)), .ref (ad (k + 2)), .int (z1), .int (z2)]) := by rw [hce2, va_up_ne _ _ (by omega)]; exact ((fr7 k (by omega)).trans h0)
      have q36 : ce2 (k + 2) = .inl (cI, 126, .inl r0) := by rw [hce2, va_up_ne _ _ (by omega)]; exact ((fr7 (k + 2) (by omega)).trans h2)
      have q37 : ce2 ka = .inl (cI, 4000, .inl g) := by rw [hce2, va_up_ne _ _ (by omega)]; exact ((fr7 ka (by omega)).trans h3)
      have q38 : ce2 (k + 1) = .inl (cI, 126, .inl (upd w2 (i / 32) ((w2 (i / 32)) ||| ((nI (bN (tb (vl g i) sh))) <<< ((nI (i % 32)) &&& 31))))) := by rw [hce2, va_up_self]
      have fr39 : ∀ j, j ≠ (k + 1) → ce2 j = ce j := fun j h0 => by rw [hce2, va_up_ne _ _ h0]; exact fr7 j h0
      refine lv_iinc (v := nI (i + 1)) (lv' := [(4, .int (nI (i + 1))), (0, .ref (ad k)), (1, .ref (ad ka)), (2, .int (nI n)), (3, .int (nI sh))]) hx hb dV_fill_44 hl (k := 0) rfl (nI_1 i) (by decide) rfl (fun ls hl => ?_)
      refine lv_goto (tgt := 11) hx hb dV_fill_47 (by decide) ?_
      exact ih _ (by omega) (ls := ls) (cl := ce2) (H := H) (locs := locs) (i := i + 1) (w2 := upd w2 (i / 32) ((w2 (i / 32)) ||| ((nI (bN (tb (vl g i) sh))) <<< ((nI (i % 32)) &&& 31)))) (hP := hP) (hD := hD) (hS := hS) (hl := lv_sub hl [0, 1, 2, 3, 4] rfl) (J := ⟨(fun j g0 => fr39 j g0), q38, ⟨by omega, wf_step d1 hn hg (by omega) j2⟩⟩) (hk9 := rfl)

set_option maxHeartbeats 4000000 in
set_option maxRecDepth 100000 in
theorem c_T_putZerosInFront (l : Launch) (D : va_G) (cI cO cJ : ClassId) (N : Nat) (ad : Nat → Nat) (ce : Nat → va_E) (sz : Nat) (hN : 33 ≤ N) (n : Nat) (hn : n ≤ 4000) (sh : Nat) (hs : sh < 9) (g h : Nat → Int32) (hg : A5 g) (hh : A5 h) (t2 : ce 2 = .inr (1, [.ref (ad 3), .ref (ad 4), .ref (ad 5), .int (nI n)])) (t4 : ce 4 = .inl (cI, 4000, .inl g)) (t5 : ce 5 = .inl (cI, 4000, .inl h)) : Met l yT_putZerosInFront (.code yT_putZerosInFront bT_putZerosInFront 6 none :: WA) ({ frames := 1, cells := 0, slots := 0, locals := 60 }) (PM D (TY cI cO cJ) N ad ce sz [.ref (ad 2), .int (nI sh)]) (va_Qv (fun (ce1 : Nat → va_E) => (∀ j, j ≠ 4 → j ≠ 5 → ce1 j = ce j) ∧ ∃ g1 h1 : Nat → Int32, ce1 4 = .inl (cI, 4000, .inl g1) ∧ ce1 5 = .inl (cI, 4000, .inl h1) ∧ A5 g1 ∧ A5 h1 ∧ PT (vl g) (vl g1) (bw g n sh) n) (BW D (TY cI cO cJ) N ad (AW N ad sz)) (AW N ad sz)) 0 0 (AW N ad sz) := by
  refine Met.ofW (cc := bT_putZerosInFront) (maxL := 6) (ret := none) (by decide) rfl ?_
  intro p e s m args below meth c s₁ B hml hv
  obtain ⟨rfl, hsz, hP, hK, hD0⟩ := hv
  have hx := B.exec
  have hb := B.bytes
  have hr := B.returns
  have hA9 : ∀ w ∈ WA, w.before _ s = true := fun w h => atoms_spec (ws := .code yT_putZerosInFront bT_putZerosInFront 6 none :: WA) B.pre w (List.mem_cons_of_mem _ h)
  have hown : s.vm.findClass RT = some m.cls := findClass_of_methodNamed B.named
  have hlocks := B.notSynchronized
  subst hsz
  have hD := aw_D (sz := s.heap.size) hD0
  generalize hAe : AW N ad s.heap.size = A at hD ⊢
  have hA : ∀ q, s.heap.size ≤ q → A q := fun q h => by rw [← hAe]; exact Or.inr h
  clear hAe hD0
  have hl := lv_entry ([.ref (ad 2), .int (nI sh)]) (n := 6) (Nat.le_of_ble_eq_true rfl)
  rw [lg_entry_eq]
  generalize (lg_sl ([.ref (ad 2), .int (nI sh)]) ++ List.replicate (6 - (lg_sl ([.ref (ad 2), .int (nI sh)])).length) Slot.unset).toArray = ls at hl ⊢
  have hl : lv_has ls 6 [(0, .ref (ad 2)), (1, .int (nI sh))] := hl
  refine st0 (A := A) (fun H locs hS hH => ?_)
  rw [← hH] at hP
  clear hH
  refine lv_iconst (v := nI 0) hx hb dT_putZerosInFront_0 (by decide +kernel) ?_
  refine lv_istore_n (lv' := [(2, .int (nI 0)), (0, .ref (ad 2)), (1, .int (nI sh))]) hx hb dT_putZerosInFront_1 rfl hl (by decide) rfl (fun ls hl => ?_)
  refine lv_iconst (v := nI 0) hx hb dT_putZerosInFront_2 (by decide +kernel) ?_
  refine lv_istore_n (lv' := [(3, .int (nI 0)), (2, .int (nI 0)), (0, .ref (ad 2)), (1, .int (nI sh))]) hx hb dT_putZerosInFront_3 rfl hl (by decide) rfl (fun ls hl => ?_)
  refine lv_iconst (v := nI 0) hx hb dT_putZerosInFront_4 (by decide +kernel) ?_
  refine lv_istore (lv' := [(4, .int (nI 0)), (3, .int (nI 0)), (2, .int (nI 0)), (0, .ref (ad 2)), (1, .int (nI sh))]) hx hb dT_putZerosInFront_5 hl (by decide) rfl (fun ls hl => ?_)
  obtain ⟨cl, hcl0⟩ : ∃ z : Nat → va_E, ce = z := ⟨_, rfl⟩
  obtain ⟨i, hi0⟩ : ∃ z : Nat, (0) = z := ⟨_, rfl⟩
  obtain ⟨g1, hg10⟩ : ∃ z : Nat → Int32, (g) = z := ⟨_, rfl⟩
  obtain ⟨h1, hh10⟩ : ∃ z : Nat → Int32, (h) = z := ⟨_, rfl⟩
  replace hl : lv_has ls 6 [(4, .int (nI i)), (3, .int (nI (cn (bw g n sh) i))), (2, .int (nI (i - cn (bw g n sh) i))), (0, .ref (ad 2)), (1, .int (nI sh))] := by subst hi0 hg10 hh10; exact lv_sub hl [0, 1, 2, 3, 4] rfl
  have J : (∀ j, j ≠ 4 → j ≠ 5 → cl j = ce j) ∧ cl 4 = .inl (cI, 4000, .inl g1) ∧ cl 5 = .inl (cI, 4000, .inl h1) ∧ i ≤ n ∧ A5 g1 ∧ A5 h1 ∧ ZF g (bw g n sh) i g1 h1 := by
    subst hcl0 hi0 hg10 hh10
    exact ⟨(fun j g0 g1 => rfl), t4, t5, ⟨by omega, hg, hh, fun _ _ => rfl, fun t ht => absurd ht (by omega)⟩⟩
  rw [hcl0] at hP hD
  clear hcl0 hi0 hg10 hh10
  obtain ⟨k9, hk9⟩ : ∃ z9 : Nat, z9 = n - i := ⟨_, rfl⟩
  induction k9 using Nat.strongRecOn generalizing i g1 h1 cl H locs ls with
  | ind k9 ih =>
    obtain ⟨fr3, q1, q2, JJ⟩ := J
    obtain ⟨j1, j2, j3, j4⟩ := JJ
    have cle := cn_le (bw g n sh) i
    refine lv_iload hx hb dT_putZerosInFront_7 (lv_at hl 0 rfl) ?_
    refine lv_aload_n hx hb dT_putZerosInFront_9 rfl (lv_at hl 3 rfl) ?_
    refine va_get (D := D) (ci := 1) (v := .int (nI n)) (C := RT) (T := TT) (N := 4) hx hb hA9 inT hown hK hP 2 (wx_at (by omega) ((fr3 2 (by omega) (by omega)).trans t2)) rfl 3 (by decide) (hA9 _ mfT_25) (fun _ h9 => h9) rfl dT_putZerosInFront_10 ?_
    refine lv_icmp_ge (tgt := 65) hx hb dT_putZerosInFront_13 (by decide) (fun c13 => ?_) (fun c13 => ?_)
    · skip
      have d1 := leN c13
      have hin9 : i = n := by omega
      subst hin9
      refine lv_aload_n hx hb dT_putZerosInFront_65 rfl (lv_at hl 3 rfl) ?_
      refine va_get (D := D) (ci := 1) (v := .ref (ad 5)) (C := RT) (T := TT) (N := 4) hx hb hA9 inT hown hK hP 2 (wx_at (by omega) ((fr3 2 (by omega) (by omega)).trans t2)) rfl 2 (by decide) (hA9 _ mfT_21) (fun _ h9 => h9) rfl dT_putZerosInFront_66 ?_
      refine lv_iconst (v := nI 0) hx hb dT_putZerosInFront_69 (by decide +kernel) ?_
      refine lv_aload_n hx hb dT_putZerosInFront_70 rfl (lv_at hl 3 rfl) ?_
      refine va_get (D := D) (ci := 1) (v := .ref (ad 4)) (C := RT) (T := TT) (N := 4) hx hb hA9 inT hown hK hP 2 (wx_at (by omega) ((fr3 2 (by omega) (by omega)).trans t2)) rfl 1 (by decide) (hA9 _ mfT_17) (fun _ h9 => h9) rfl dT_putZerosInFront_71 ?_
      refine lv_iload_n hx hb dT_putZerosInFront_74 rfl (lv_at hl 2 rfl) ?_
      refine lv_iload_n hx hb dT_putZerosInFront_75 rfl (lv_at hl 1 rfl) ?_
      refine va_copyi (ty := .int) hx hb (hml.trans hl.1.symm) hown (hA9 _ mlT_29) (hA9 _ mnatarraycopyName) (hA9 _ mtarraycopyName) (hA9 _ mn_sys) hK hP hD hS 5 4 0 0 (wx_at (by omega) q2) (wx_at (by omega) q1) rfl rfl rfl (nI_pos (by omega)) (nI_pos (by omega)) (nI_pos (by omega)) (by rw [clN, clN]; omega) (by rw [clN, clN]; omega) (fun _ _ => rfl) (Nat.le_of_ble_eq_true rfl) (by decide +kernel) dT_putZerosInFront_76 (fun H locs hP hD hS => ?_)
      rw [clN (a := 0), clN (a := (i - cn (bw g i sh) i)), clN (a := (cn (bw g i sh) i))] at hP hD
      obtain ⟨ce1, hce1⟩ : ∃ z9, z9 = va_up cl 4 (.inl (cI, 4000, .inl (va_cpy h1 g1 0 (i - cn (bw g i sh) i) (cn (bw g i sh) i)))) := ⟨_, rfl⟩
      rw [wx_set (by omega), ← hce1] at hP hD
      have q4 : ce1 2 = .inr (1, [.ref (ad 3), .ref (ad 4), .ref (ad 5), .int (nI i)]) := by rw [hce1, va_up_ne _ _ (by omega)]; exact ((fr3 2 (by omega) (by omega)).trans t2)
      have q5 : ce1 5 = .inl (cI, 4000, .inl h1) := by rw [hce1, va_up_ne _ _ (by omega)]; exact q2
      have q6 : ce1 4 = .inl (cI, 4000, .inl (va_cpy h1 g1 0 (i - cn (bw g i sh) i) (cn (bw g i sh) i))) := by rw [hce1, va_up_self]
      have fr7 : ∀ j, j ≠ 4 → j ≠ 5 → ce1 j = ce j := fun j h0 h1 => by rw [hce1, va_up_ne _ _ h0]; exact fr3 j h0 h1
      exact W.vret hx hb hr (fun t ht hW => ⟨⟨ce1, rfl, ⟨(fun j g0 g1 => fr7 j g0 g1), _, _, q6, q5, j3.c j2, j3, j4.e hg⟩, by rw [ht]; exact hP, va_K.moved hW.alike hK, hD⟩, hS.F ht⟩) hS.2.2 dT_putZerosInFront_79
    · skip
      have d1 := nleN c13
      have hbw : bw g n sh i = tb (vl g i) sh := by unfold bw; rw [decide_eq_true d1, Bool.true_and]
      refine lv_aload_n hx hb dT_putZerosInFront_16 rfl (lv_at hl 3 rfl) ?_
      refine va_get (D := D) (ci := 1) (v := .ref (ad 4)) (C := RT) (T := TT) (N := 4) hx hb hA9 inT hown hK hP 2 (wx_at (by omega) ((fr3 2 (by omega) (by omega)).trans t2)) rfl 1 (by decide) (hA9 _ mfT_17) (fun _ h9 => h9) rfl dT_putZerosInFront_17 ?_
      refine lv_iload hx hb dT_putZerosInFront_20 (lv_at hl 0 rfl) ?_
      refine va_iald hx hb hK hP 4 0 (wx_at (by omega) q1) rfl (inN) dT_putZerosInFront_22 ?_
      refine lv_topi (fun z8 ez8 => ?_)
      obtain rfl : z8 = nI (vl g i) := by rw [ez8, clN]; rw [j4.1 i (Nat.le_refl i)]; exact (hg.v i).2
      refine lv_istore (lv' := [(5, .int (nI (vl g i))), (4, .int (nI i)), (3, .int (nI (cn (bw g n sh) i))), (2, .int (nI (i - cn (bw g n sh) i))), (0, .ref (ad 2)), (1, .int (nI sh))]) hx hb dT_putZerosInFront_23 hl (by decide) rfl (fun ls hl => ?_)
      refine lv_iload hx hb dT_putZerosInFront_25 (lv_at hl 0 rfl) ?_
      refine lv_iload_n hx hb dT_putZerosInFront_27 rfl (lv_at hl 5 rfl) ?_
      refine lv_ishr hx hb dT_putZerosInFront_28 ?_
      refine lv_iconst (v := nI 1) hx hb dT_putZerosInFront_29 (by decide +kernel) ?_
      refine lv_iand hx hb dT_putZerosInFront_30 ?_
      refine lv_topi (fun z9 ez9 => ?_)
      obtain rfl : z9 = nI (bN (tb (vl g i) sh)) := by rw [ez9]; exact sh1 (by have := (hg.v i).1; omega) (by omega)
      refine lv_if_ne (tgt := 48) hx hb dT_putZerosInFront_31 (by decide) (fun c31 => ?_) (fun c31 => ?_)
      · skip
        have hbz := hbw.trans (bz_t c31)
        refine lv_aload_n hx hb dT_putZerosInFront_48 rfl (lv_at hl 4 rfl) ?_
        refine va_get (D := D) (ci := 1) (v := .ref (ad 5)) (C := RT) (T := TT) (N := 4) hx hb hA9 inT hown hK hP 2 (wx_at (by omega) ((fr3 2 (by omega) (by omega)).trans t2)) rfl 2 (by decide) (hA9 _ mfT_21) (fun _ h9 => h9) rfl dT_putZerosInFront_49 ?_
        refine lv_iload_n hx hb dT_putZerosInFront_52 rfl (lv_at hl 2 rfl) ?_
        refine lv_iload hx hb dT_putZerosInFront_53 (lv_at hl 0 rfl) ?_
        refine va_iast hx hb hK hP hD hS 5 0 (wx_at (by omega) q2) rfl (inN) dT_putZerosInFront_55 (fun H locs hP hD hS => ?_)
        rw [clN (a := (cn (bw g n sh) i))] at hP hD
        obtain ⟨ce1, hce1⟩ : ∃ z9, z9 = va_up cl 5 (.inl (cI, 4000, .inl (upd h1 (cn (bw g n sh) i) (nI (vl g i))))) := ⟨_, rfl⟩
        rw [wx_set (by omega), ← hce1] at hP hD
        have q10 : ce1 2 = .inr (1, [.ref (ad 3), .ref (ad 4), .ref (ad 5), .int (nI n)]) := by rw [hce1, va_up_ne _ _ (by omega)]; exact ((fr3 2 (by omega) (by omega)).trans t2)
        have q11 : ce1 4 = .inl (cI, 4000, .inl g1) := by rw [hce1, va_up_ne _ _ (by omega)]; exact q1
        have q12 : ce1 5 = .inl (cI, 4000, .inl (upd h1 (cn (bw g n sh) i) (nI (vl g i)))) := by rw [hce1, va_up_self]
        have fr13 : ∀ j, j ≠ 4 → j ≠ 5 → ce1 j = ce j := fun j h0 h1 => by rw [hce1, va_up_ne _ _ h1]; exact fr3 j h0 h1
        refine lv_iinc (v := nI (cn (bw g n sh) i + 1)) (lv' := [(3, .int (nI (cn (bw g n sh) i + 1))), (5, .int (nI (vl g i))), (4, .int (nI i)), (2, .int (nI (i - cn (bw g n sh) i))), (0, .ref (ad 2)), (1, .int (nI sh))]) hx hb dT_putZerosInFront_56 hl (k := 2) rfl (nI_1 _) (by decide) rfl (fun ls hl => ?_)
        refine lv_iinc (v := nI (i + 1)) (lv' := [(4, .int (nI (i + 1))), (3, .int (nI (cn (bw g n sh) i + 1))), (5, .int (nI (vl g i))), (2, .int (nI (i - cn (bw g n sh) i))), (0, .ref (ad 2)), (1, .int (nI sh))]) hx hb dT_putZerosInFront_59 hl (k := 2) rfl (nI_1 i) (by decide) rfl (fun ls hl => ?_)
        refine lv_goto (tgt := 7) hx hb dT_putZerosInFront_62 (by decide) ?_
        exact ih _ (by omega) (ls := ls) (cl := ce1) (H := H) (locs := locs) (i := i + 1) (g1 := g1) (h1 := upd h1 (cn (bw g n sh) i) (nI (vl g i))) (hP := hP) (hD := hD) (hS := hS) (hl := by rw [cn_t hbz, Nat.add_sub_add_right]; exact lv_sub hl [0, 1, 3, 4, 5] rfl) (J := ⟨(fun j g0 g1 => fr13 j g0 g1), q11, q12, ⟨by omega, j2, j3.u (hg.v i).1, by rw [← (hg.v i).2]; exact j4.o hbz⟩⟩) (hk9 := rfl)
      · skip
        have hbz := hbw.trans (bz_f c31)
        refine lv_aload_n hx hb dT_putZerosInFront_34 rfl (lv_at hl 4 rfl) ?_
        refine va_get (D := D) (ci := 1) (v := .ref (ad 4)) (C := RT) (T := TT) (N := 4) hx hb hA9 inT hown hK hP 2 (wx_at (by omega) ((fr3 2 (by omega) (by omega)).trans t2)) rfl 1 (by decide) (hA9 _ mfT_17) (fun _ h9 => h9) rfl dT_putZerosInFront_35 ?_
        refine lv_iload_n hx hb dT_putZerosInFront_38 rfl (lv_at hl 3 rfl) ?_
        refine lv_iload hx hb dT_putZerosInFront_39 (lv_at hl 0 rfl) ?_
        refine va_iast hx hb hK hP hD hS 4 0 (wx_at (by omega) q1) rfl (inN) dT_putZerosInFront_41 (fun H locs hP hD hS => ?_)
        rw [clN (a := (i - cn (bw g n sh) i))] at hP hD
        obtain ⟨ce1, hce1⟩ : ∃ z9, z9 = va_up cl 4 (.inl (cI, 4000, .inl (upd g1 (i - cn (bw g n sh) i) (nI (vl g i))))) := ⟨_, rfl⟩
        rw [wx_set (by omega), ← hce1] at hP hD
        have q14 : ce1 2 = .inr (1, [.ref (ad 3), .ref (ad 4), .ref (ad 5), .int (nI n)]) := by rw [hce1, va_up_ne _ _ (by omega)]; exact ((fr3 2 (by omega) (by omega)).trans t2)
        have q15 : ce1 5 = .inl (cI, 4000, .inl h1) := by rw [hce1, va_up_ne _ _ (by omega)]; exact q2
        have q16 : ce1 4 = .inl (cI, 4000, .inl (upd g1 (i - cn (bw g n sh) i) (nI (vl g i)))) := by rw [hce1, va_up_self]
        have fr17 : ∀ j, j ≠ 4 → j ≠ 5 → ce1 j = ce j := fun j h0 h1 => by rw [hce1, va_up_ne _ _ h0]; exact fr3 j h0 h1
        refine lv_iinc (v := nI (i + 1 - cn (bw g n sh) i)) (lv' := [(2, .int (nI (i + 1 - cn (bw g n sh) i))), (5, .int (nI (vl g i))), (4, .int (nI i)), (3, .int (nI (cn (bw g n sh) i))), (0, .ref (ad 2)), (1, .int (nI sh))]) hx hb dT_putZerosInFront_42 hl (k := 3) rfl ((nI_1 _).trans (congrArg nI (by omega))) (by decide) rfl (fun ls hl => ?_)
        refine lv_goto (tgt := 59) hx hb dT_putZerosInFront_45 (by decide) ?_
        refine lv_iinc (v := nI (i + 1)) (lv' := [(4, .int (nI (i + 1))), (2, .int (nI (i + 1 - cn (bw g n sh) i))), (5, .int (nI (vl g i))), (3, .int (nI (cn (bw g n sh) i))), (0, .ref (ad 2)), (1, .int (nI sh))]) hx hb dT_putZerosInFront_59 hl (k := 2) rfl (nI_1 i) (by decide) rfl (fun ls hl => ?_)
        refine lv_goto (tgt := 7) hx hb dT_putZerosInFront_62 (by decide) ?_
        exact ih _ (by omega) (ls := ls) (cl := ce1) (H := H) (locs := locs) (i := i + 1) (g1 := upd g1 (i - cn (bw g n sh) i) (nI (vl g i))) (h1 := h1) (hP := hP) (hD := hD) (hS := hS) (hl := by rw [cn_f hbz]; exact lv_sub hl [0, 3, 1, 4, 5] rfl) (J := ⟨(fun j g0 g1 => fr17 j g0 g1), q16, q15, ⟨by omega, j2.u (hg.v i).1, j3, by rw [← (hg.v i).2]; exact j4.z hbz⟩⟩) (hk9 := rfl)
end
section
set_option maxHeartbeats 4000000 in
set_option maxRecDepth 100000 in
theorem c_T_fill (l : Launch) (D : va_G) (cI cO cJ : ClassId) (N : Nat) (ad : Nat → Nat) (ce : Nat → va_E) (sz : Nat) (hN : 33 ≤ N) (os0 : Nat → Nat → Nat) (n0 : Nat) (hT : TR cI cO ad ce os0 n0) (n : Nat) (hn : n ≤ 4000) (row o4 o5 : Nat → Int32) (h1 : ce 1 = .inl (cI, 4000, .inl row)) (hr5 : A5 row) (t4 : ce 4 = .inl (cI, 4000, .inl o4)) (h4 : A5 o4) (t5 : ce 5 = .inl (cI, 4000, .inl o5)) (h5 : A5 o5) : Met l yT_fill (.code yT_fill bT_fill 4 none :: WA) ({ frames := 2, cells := 0, slots := 0, locals := 85 }) (PM D (TY cI cO cJ) N ad ce sz [.ref (ad 2), .ref (ad 1), .int (nI n)]) (va_Qv (fun (ce1 : Nat → va_E) => ∃ os, TR cI cO ad ce1 os n ∧ WM (vl row) n os ∧ (∃ g, ce1 4 = .inl (cI, 4000, .inl g) ∧ A5 g) ∧ (∃ g, ce1 5 = .inl (cI, 4000, .inl g) ∧ A5 g) ∧ ∀ j, j < 2 ∨ j = 3 ∨ 33 ≤ j → ce1 j = ce j) (BW D (TY cI cO cJ) N ad (AW N ad sz)) (AW N ad sz)) 0 0 (AW N ad sz) := by
  refine Met.ofW (cc := bT_fill) (maxL := 4) (ret := none) (by decide) rfl ?_
  intro p e s m args below meth c s₁ B hml hv
  obtain ⟨rfl, hsz, hP, hK, hD0⟩ := hv
  have hx := B.exec
  have hb := B.bytes
  have hr := B.returns
  have hA9 : ∀ w ∈ WA, w.before _ s = true := fun w h => atoms_spec (ws := .code yT_fill bT_fill 4 none :: WA) B.pre w (List.mem_cons_of_mem _ h)
  have hown : s.vm.findClass RT = some m.cls := findClass_of_methodNamed B.named
  have hlocks := B.notSynchronized
  subst hsz
  have hD := aw_D (sz := s.heap.size) hD0
  generalize hAe : AW N ad s.heap.size = A at hD ⊢
  have hA : ∀ q, s.heap.size ≤ q → A q := fun q h => by rw [← hAe]; exact Or.inr h
  clear hAe hD0
  have hl := lv_entry ([.ref (ad 2), .ref (ad 1), .int (nI n)]) (n := 4) (Nat.le_of_ble_eq_true rfl)
  rw [lg_entry_eq]
  generalize (lg_sl ([.ref (ad 2), .ref (ad 1), .int (nI n)]) ++ List.replicate (4 - (lg_sl ([.ref (ad 2), .ref (ad 1), .int (nI n)])).length) Slot.unset).toArray = ls at hl ⊢
  have hl : lv_has ls 4 [(0, .ref (ad 2)), (1, .ref (ad 1)), (2, .int (nI n))] := hl
  refine st0 (A := A) (fun H locs hS hH => ?_)
  rw [← hH] at hP
  clear hH
  obtain ⟨t2, ⟨lv, t3, tlv⟩, tL, hn0⟩ := id hT
  refine lv_aload_n hx hb dT_fill_0 rfl (lv_at hl 0 rfl) ?_
  refine lv_iload_n hx hb dT_fill_1 rfl (lv_at hl 2 rfl) ?_
  refine va_put (D := D) (ci := 1) (v := .int (nI n)) (ty := .int) (C := RT) (T := TT) (N := 4) hx hb hA9 inT tyT tyT_ok nmT hown hK hP hD hS 2 (wx_at (by omega) t2) rfl 3 (by decide) (hA9 _ mfT_25) (fun _ h9 => h9) rfl (by decide +kernel) rfl rfl (Nat.le_of_ble_eq_true rfl) dT_fill_2 (fun H locs hP hD hS => ?_)
  replace hP : va_P D CLS ((wx N ad ce).set 2 (ad 2, .inr (1, [.ref (ad 3), .ref (ad 4), .ref (ad 5), .int (nI n)]))) H := hP
  replace hD : va_D A ((wx N ad ce).set 2 (ad 2, .inr (1, [.ref (ad 3), .ref (ad 4), .ref (ad 5), .int (nI n)]))) := hD
  obtain ⟨ce1, hce1⟩ : ∃ z9, z9 = va_up ce 2 (.inr (1, [.ref (ad 3), .ref (ad 4), .ref (ad 5), .int (nI n)])) := ⟨_, rfl⟩
  rw [wx_set (by omega), ← hce1] at hP hD
  have q1 : ce1 1 = .inl (cI, 4000, .inl row) := by rw [hce1, va_up_ne _ _ (by omega)]; exact h1
  have q2 : ce1 3 = .inl (cO, 9, .inr (.inr (.inr (.inr lv)))) := by rw [hce1, va_up_ne _ _ (by omega)]; exact t3
  have q3 : ce1 4 = .inl (cI, 4000, .inl o4) := by rw [hce1, va_up_ne _ _ (by omega)]; exact t4
  have q4 : ce1 5 = .inl (cI, 4000, .inl o5) := by rw [hce1, va_up_ne _ _ (by omega)]; exact t5
  have q5 : ce1 2 = .inr (1, [.ref (ad 3), .ref (ad 4), .ref (ad 5), .int (nI n)]) := by rw [hce1, va_up_self]
  have fr6 : ∀ j, j ≠ 2 → ce1 j = ce j := fun j h0 => by rw [hce1, va_up_ne _ _ h0]
  refine lv_aload_n hx hb dT_fill_5 rfl (lv_at hl 1 rfl) ?_
  refine lv_iconst (v := nI 0) hx hb dT_fill_6 (by decide +kernel) ?_
  refine lv_aload_n hx hb dT_fill_7 rfl (lv_at hl 0 rfl) ?_
  refine va_get (D := D) (ci := 1) (v := .ref (ad 4)) (C := RT) (T := TT) (N := 4) hx hb hA9 inT hown hK hP 2 (wx_at (by omega) q5) rfl 1 (by decide) (hA9 _ mfT_17) (fun _ h9 => h9) rfl dT_fill_8 ?_
  refine lv_iconst (v := nI 0) hx hb dT_fill_11 (by decide +kernel) ?_
  refine lv_iload_n hx hb dT_fill_12 rfl (lv_at hl 2 rfl) ?_
  refine va_copyi (ty := .int) hx hb (hml.trans hl.1.symm) hown (hA9 _ mlT_29) (hA9 _ mnatarraycopyName) (hA9 _ mtarraycopyName) (hA9 _ mn_sys) hK hP hD hS 1 4 0 0 (wx_at (by omega) q1) (wx_at (by omega) q3) rfl rfl rfl (nI_pos (by omega)) (nI_pos (by omega)) (nI_pos (by omega)) (by rw [clN, clN]; omega) (by rw [clN, clN]; omega) (fun _ _ => rfl) (Nat.le_of_ble_eq_true rfl) (by decide +kernel) dT_fill_13 (fun H locs hP hD hS => ?_)
  rw [clN (a := 0), clN (a := n)] at hP hD
  obtain ⟨ce2, hce2⟩ : ∃ z9, z9 = va_up ce1 4 (.inl (cI, 4000, .inl (va_cpy row o4 0 0 n))) := ⟨_, rfl⟩
  rw [wx_set (by omega), ← hce2] at hP hD
  have q7 : ce2 1 = .inl (cI, 4000, .inl row) := by rw [hce2, va_up_ne _ _ (by omega)]; exact q1
  have q8 : ce2 2 = .inr (1, [.ref (ad 3), .ref (ad 4), .ref (ad 5), .int (nI n)]) := by rw [hce2, va_up_ne _ _ (by omega)]; exact q5
  have q9 : ce2 3 = .inl (cO, 9, .inr (.inr (.inr (.inr lv)))) := by rw [hce2, va_up_ne _ _ (by omega)]; exact q2
  have q10 : ce2 5 = .inl (cI, 4000, .inl o5) := by rw [hce2, va_up_ne _ _ (by omega)]; exact q4
  have q11 : ce2 4 = .inl (cI, 4000, .inl (va_cpy row o4 0 0 n)) := by rw [hce2, va_up_self]
  have fr12 : ∀ j, j ≠ 2 → j ≠ 4 → ce2 j = ce j := fun j h0 h1 => by rw [hce2, va_up_ne _ _ h1]; exact fr6 j h0
  refine lv_iconst (v := nI 0) hx hb dT_fill_16 (by decide +kernel) ?_
  refine lv_istore_n (lv' := [(3, .int (nI 0)), (0, .ref (ad 2)), (1, .ref (ad 1)), (2, .int (nI n))]) hx hb dT_fill_17 rfl hl (by decide) rfl (fun ls hl => ?_)
  obtain ⟨cl, hcl0⟩ : ∃ z : Nat → va_E, ce2 = z := ⟨_, rfl⟩
  obtain ⟨d, hd0⟩ : ∃ z : Nat, (0) = z := ⟨_, rfl⟩
  obtain ⟨os, hos0⟩ : ∃ z : Nat → Nat → Nat, (fun _ => vl (va_cpy row o4 0 0 n)) = z := ⟨_, rfl⟩
  obtain ⟨g, hg0⟩ : ∃ z : Nat → Int32, (va_cpy row o4 0 0 n) = z := ⟨_, rfl⟩
  obtain ⟨h, hh0⟩ : ∃ z : Nat → Int32, (o5) = z := ⟨_, rfl⟩
  replace hl : lv_has ls 4 [(3, .int (nI d)), (0, .ref (ad 2)), (1, .ref (ad 1)), (2, .int (nI n))] := by subst hd0 hos0 hg0 hh0; exact lv_sub hl [0, 1, 2, 3] rfl
  have J : (∀ j, j < 2 ∨ j = 3 ∨ 33 ≤ j → cl j = ce j) ∧ cl 2 = .inr (1, [.ref (ad 3), .ref (ad 4), .ref (ad 5), .int (nI n)]) ∧ (∀ t, t < d → LV cI ad cl (6 + 3 * t) (bs os n t) n) ∧ (∀ t, d ≤ t → t < 9 → ∃ (z1 z2 : Int32) (w r : Nat → Int32), cl (6 + 3 * t) = .inr (0, [.ref (ad (6 + 3 * t + 1)), .ref (ad (6 + 3 * t + 2)), .int (z1), .int (z2)]) ∧ cl (6 + 3 * t + 1) = .inl (cI, 126, .inl w) ∧ cl (6 + 3 * t + 2) = .inl (cI, 126, .inl r)) ∧ cl 4 = .inl (cI, 4000, .inl g) ∧ A5 g ∧ cl 5 = .inl (cI, 4000, .inl h) ∧ A5 h ∧ (∀ t, t < d → PT (os t) (os (t + 1)) (bs os n t) n) ∧ (∀ i, i < n → os 0 i = vl row i) ∧ os d = vl g ∧ d ≤ 9 := by
    subst hcl0 hd0 hos0 hg0 hh0
    exact ⟨fun j hj => fr12 j (by omega) (by omega), q8, fun t ht => absurd ht (by omega), fun t _ ht => (by obtain ⟨w9, r9, x0, x1, x2, -⟩ := tL t ht; exact ⟨_, _, w9, r9, (fr12 _ (by omega) (by omega)).trans x0, (fr12 _ (by omega) (by omega)).trans x1, (fr12 _ (by omega) (by omega)).trans x2⟩), q11, hr5.c h4, (fr12 5 (by omega) (by omega)).trans t5, h5, fun t ht => absurd ht (by omega), fun i hi => (by show (va_cpy row o4 0 0 n i).toNatClampNeg = (row i).toNatClampNeg; rw [sb_cpy0 hi]), rfl, by omega⟩
  rw [hcl0] at hP hD
  clear hcl0 hd0 hos0 hg0 hh0
  obtain ⟨k9, hk9⟩ : ∃ z9 : Nat, z9 = 9 - d := ⟨_, rfl⟩
  induction k9 using Nat.strongRecOn generalizing d os g h cl H locs ls with
  | ind k9 ih =>
    obtain ⟨f1, f2, f3, f4, f5, f6, f7, f8, f9, f10, f11, f12⟩ := J
    refine lv_iload_n hx hb dT_fill_18 rfl (lv_at hl 0 rfl) ?_
    refine lv_bipush (v := nI 9) hx hb dT_fill_19 (by decide +kernel) ?_
    refine lv_icmp_ge (tgt := 56) hx hb dT_fill_21 (by decide) (fun c21 => ?_) (fun c21 => ?_)
    · skip
      have d1 := leN c21
      have hd9 : d = 9 := by omega
      subst hd9
      exact W.vret hx hb hr (fun t ht hW => ⟨⟨cl, rfl, ⟨os, ⟨f2, ⟨lv, (f1 3 (by omega)).trans t3, tlv⟩, f3, hn⟩, ⟨f10, f9⟩, ⟨g, f5, f6⟩, ⟨h, f7, f8⟩, f1⟩, by rw [ht]; exact hP, va_K.moved hW.alike hK, hD⟩, hS.F ht⟩) hS.2.2 dT_fill_56
    · skip
      have d1 := nleN c21
      refine lv_aload_n hx hb dT_fill_24 rfl (lv_at hl 1 rfl) ?_
      refine va_get (D := D) (ci := 1) (v := .ref (ad 3)) (C := RT) (T := TT) (N := 4) hx hb hA9 inT hown hK hP 2 (wx_at (by omega) f2) rfl 0 (by decide) (hA9 _ mfT_11) (fun _ h9 => h9) rfl dT_fill_25 ?_
      obtain ⟨z1, z2, w9, r9, x0, x1, x2⟩ := f4 d (Nat.le_refl d) (by omega)
      refine lv_iload_n hx hb dT_fill_28 rfl (lv_at hl 0 rfl) ?_
      refine va_aldq (C := RV) hx hb hK hP 3 1 (wx_at (by omega) ((f1 3 (by omega)).trans t3)) rfl (inN) dT_fill_29 ?_
      refine W.eq (g2 := F0 m 30 ls [.ref (ad (6 + 3 * d))]) (by rw [clN, tlv d (by omega)]; rfl) ?_
      refine lv_aload_n hx hb dT_fill_30 rfl (lv_at hl 1 rfl) ?_
      refine va_get (D := D) (ci := 1) (v := .ref (ad 4)) (C := RT) (T := TT) (N := 4) hx hb hA9 inT hown hK hP 2 (wx_at (by omega) f2) rfl 1 (by decide) (hA9 _ mfT_17) (fun _ h9 => h9) rfl dT_fill_31 ?_
      refine lv_iload_n hx hb dT_fill_34 rfl (lv_at hl 3 rfl) ?_
      refine lv_iload_n hx hb dT_fill_35 rfl (lv_at hl 0 rfl) ?_
      refine vp_callSi (va_runS (As := [.int (nI d)]) (rest := [.int (nI n), .ref (ad 4), .ref (ad (6 + 3 * d))]) ⟨hx, hb, hml, hown, hA9⟩ (c_T_shiftOf l d (by omega)) (va_cwS 1 hA9 (gS mlT_35 mtT_shiftOf mn_T mkT_shiftOf) rfl rfl rfl (by decide +kernel) ⟨Nat.le_of_ble_eq_true rfl, Nat.le_of_ble_eq_true rfl⟩) ⟨P0_bl, P0_mk⟩ rfl rfl hl.1 rfl (lv_room (Nat.le_of_ble_eq_true rfl)) dT_fill_36 ⟨Nat.le_of_ble_eq_true rfl, Nat.le_of_ble_eq_true rfl⟩).run (fun r13 hr13 => ?_)
      obtain rfl : r13 = nI (8 - d) := hr13
      refine cv (va_runV (As := [.ref (ad 4), .int (nI n), .int (nI (8 - d))]) (rest := []) ⟨hx, hb, hml, hown, hA9⟩ (c_V_fill l D cI cO cJ N ad cl H.size (6 + 3 * d) 4 (by omega) (by omega) (by omega) n hn (8 - d) (by omega) g f6 w9 r9 z1 z2 x0 x1 x2 f5) (cwV 3 hA9 (gV mlT_39 miV_fill msV_fill mn_V mkV_fill) rfl rfl rfl (by decide +kernel) ⟨Nat.le_of_ble_eq_true rfl, Nat.le_of_ble_eq_true rfl⟩) ⟨PM_bl, wx_recv hK hP (by omega) x0 rfl, PM_mk hK hP hD⟩ rfl rfl hl.1 rfl (lv_room (Nat.le_of_ble_eq_true rfl)) dT_fill_39 ⟨Nat.le_of_ble_eq_true rfl, Nat.le_of_ble_eq_true rfl⟩) hS hD hA (fun ce3 H locs hpost hP hD hS => ?_)
      obtain ⟨pf, pv⟩ := hpost
      have y2 : ce3 2 = .inr (1, [.ref (ad 3), .ref (ad 4), .ref (ad 5), .int (nI n)]) := (pf 2 (by omega) (by omega) (by omega)).trans f2
      have y4 : ce3 4 = .inl (cI, 4000, .inl g) := (pf 4 (by omega) (by omega) (by omega)).trans f5
      have y5 : ce3 5 = .inl (cI, 4000, .inl h) := (pf 5 (by omega) (by omega) (by omega)).trans f7
      refine lv_aload_n hx hb dT_fill_42 rfl (lv_at hl 1 rfl) ?_
      refine lv_iload_n hx hb dT_fill_43 rfl (lv_at hl 0 rfl) ?_
      refine vp_callSi (va_runS (As := [.int (nI d)]) (rest := [.ref (ad 2)]) ⟨hx, hb, hml, hown, hA9⟩ (c_T_shiftOf l d (by omega)) (va_cwS 1 hA9 (gS mlT_35 mtT_shiftOf mn_T mkT_shiftOf) rfl rfl rfl (by decide +kernel) ⟨Nat.le_of_ble_eq_true rfl, Nat.le_of_ble_eq_true rfl⟩) ⟨P0_bl, P0_mk⟩ rfl rfl hl.1 rfl (lv_room (Nat.le_of_ble_eq_true rfl)) dT_fill_44 ⟨Nat.le_of_ble_eq_true rfl, Nat.le_of_ble_eq_true rfl⟩).run (fun r15 hr15 => ?_)
      obtain rfl : r15 = nI (8 - d) := hr15
      refine cv (va_runV (As := [.int (nI (8 - d))]) (rest := []) ⟨hx, hb, hml, hown, hA9⟩ (c_T_putZerosInFront l D cI cO cJ N ad ce3 H.size hN n hn (8 - d) (by omega) g h f6 f8 y2 y4 y5) (cwV 1 hA9 (gV mlT_43 miT_putZerosInFront msT_putZerosInFront mn_T mkT_putZerosInFront) rfl rfl rfl (by decide +kernel) ⟨Nat.le_of_ble_eq_true rfl, Nat.le_of_ble_eq_true rfl⟩) ⟨PM_bl, wx_recv hK hP (by omega) y2 rfl, PM_mk hK hP hD⟩ rfl rfl hl.1 rfl (lv_room (Nat.le_of_ble_eq_true rfl)) dT_fill_47 ⟨Nat.le_of_ble_eq_true rfl, Nat.le_of_ble_eq_true rfl⟩) hS hD hA (fun ce4 H locs hpost hP hD hS => ?_)
      obtain ⟨qf, g1, h1, qg, qh, qa, qb, qp⟩ := hpost
      refine lv_iinc (v := nI (d + 1)) (lv' := [(3, .int (nI (d + 1))), (0, .ref (ad 2)), (1, .ref (ad 1)), (2, .int (nI n))]) hx hb dT_fill_50 hl (k := 0) rfl (nI_1 d) (by decide) rfl (fun ls hl => ?_)
      refine lv_goto (tgt := 18) hx hb dT_fill_53 (by decide) ?_
      obtain ⟨os1, ho1⟩ : ∃ z : Nat → Nat → Nat, z = fun t => if t = d + 1 then vl g1 else os t := ⟨_, rfl⟩
      have oe : ∀ t, t ≤ d → os1 t = os t := fun t ht => by rw [ho1]; exact if_neg (by omega)
      have on : os1 (d + 1) = vl g1 := by rw [ho1]; exact if_pos rfl
      have be : ∀ t, t ≤ d → bs os1 n t = bs os n t := fun t ht => by unfold bs; rw [oe t ht]
      have bd : bs os n d = bw g n (8 - d) := by unfold bs bw; rw [f11]
      have kp : ∀ j, j ≠ 4 → j ≠ 5 → j ≠ 6 + 3 * d → j ≠ 6 + 3 * d + 1 → j ≠ 6 + 3 * d + 2 → ce4 j = cl j := fun j a1 a2 a3 a4 a5 => (qf j a1 a2).trans (pf j a3 a4 a5)
      have J1 : (∀ j, j < 2 ∨ j = 3 ∨ 33 ≤ j → ce4 j = ce j) := fun j hj => (kp j (by omega) (by omega) (by omega) (by omega) (by omega)).trans (f1 j hj)
      have J3 : ∀ t, t < d + 1 → LV cI ad ce4 (6 + 3 * t) (bs os1 n t) n := fun t ht => by
        rw [be t (by omega)]
        by_cases h9 : t = d
        · rw [h9, bd]; exact pv.cg (qf _ (by omega) (by omega)) (qf _ (by omega) (by omega)) (qf _ (by omega) (by omega))
        · exact (f3 t (by omega)).cg (kp _ (by omega) (by omega) (by omega) (by omega) (by omega)) (kp _ (by omega) (by omega) (by omega) (by omega) (by omega)) (kp _ (by omega) (by omega) (by omega) (by omega) (by omega))
      have J4 : ∀ t, d + 1 ≤ t → t < 9 → ∃ (z1 z2 : Int32) (w r : Nat → Int32), ce4 (6 + 3 * t) = .inr (0, [.ref (ad (6 + 3 * t + 1)), .ref (ad (6 + 3 * t + 2)), .int (z1), .int (z2)]) ∧ ce4 (6 + 3 * t + 1) = .inl (cI, 126, .inl w) ∧ ce4 (6 + 3 * t + 2) = .inl (cI, 126, .inl r) := fun t h1 h2 => by
        obtain ⟨u1, u2, w8, r8, v0, v1, v2⟩ := f4 t (by omega) h2
        exact ⟨u1, u2, w8, r8, (kp _ (by omega) (by omega) (by omega) (by omega) (by omega)).trans v0, (kp _ (by omega) (by omega) (by omega) (by omega) (by omega)).trans v1, (kp _ (by omega) (by omega) (by omega) (by omega) (by omega)).trans v2⟩
      have J9 : ∀ t, t < d + 1 → PT (os1 t) (os1 (t + 1)) (bs os1 n t) n := fun t ht => by
        rw [be t (by omega), oe t (by omega)]
        by_cases h9 : t = d
        · rw [h9, on, bd, f11]; exact qp
        · rw [oe (t + 1) (by omega)]; exact f9 t (by omega)
      exact ih _ (by omega) (ls := ls) (cl := ce4) (H := H) (locs := locs) (d := d + 1) (os := os1) (g := g1) (h := h1) (hP := hP) (hD := hD) (hS := hS) (hl := lv_sub hl [0, 1, 2, 3] rfl) (J := ⟨J1, (qf 2 (by omega) (by omega)).trans y2, J3, J4, qg, qa, qh, qb, J9, fun i hi => by rw [oe 0 (by omega)]; exact f10 i hi, on, by omega⟩) (hk9 := rfl)

set_option maxHeartbeats 4000000 in
set_option maxRecDepth 100000 in
theorem c_L_build (l : Launch) (D : va_G) (cI cO cJ : ClassId) (N : Nat) (ad : Nat → Nat) (ce : Nat → va_E) (sz : Nat) (hN : 34 ≤ N) (os : Nat → Nat → Nat) (n : Nat) (hT : TR cI cO ad ce os n) (rl gc : Nat) (hrl : rl ≤ 4000) (h0 : ce 0 = .inr (2, [.ref (ad 1), .ref (ad 2), .ref (ad 33), .int (nI rl), .int (nI gc)])) (row o4 o5 : Nat → Int32) (h1 : ce 1 = .inl (cI, 4000, .inl row)) (hr5 : A5 row) (t4 : ce 4 = .inl (cI, 4000, .inl o4)) (h4 : A5 o4) (t5 : ce 5 = .inl (cI, 4000, .inl o5)) (h5 : A5 o5) : Met l yL_build (.code yL_build bL_build 1 (some .int) :: WA) ({ frames := 3, cells := 0, slots := 0, locals := 108 }) (PM D (TY cI cO cJ) N ad ce sz [.ref (ad 0)]) (va_Qi (fun (r : Int32) (ce1 : Nat → va_E) => r = nI rl ∧ ∃ os, TR cI cO ad ce1 os rl ∧ WM (vl row) rl os ∧ (∃ g, ce1 4 = .inl (cI, 4000, .inl g) ∧ A5 g) ∧ (∃ g, ce1 5 = .inl (cI, 4000, .inl g) ∧ A5 g) ∧ ∀ j, j < 2 ∨ j = 3 ∨ 33 ≤ j → ce1 j = ce j) (BW D (TY cI cO cJ) N ad (AW N ad sz)) (AW N ad sz)) 0 0 (AW N ad sz) := by
  refine Met.ofW (cc := bL_build) (maxL := 1) (ret := (some .int)) (by decide) rfl ?_
  intro p e s m args below meth c s₁ B hml hv
  obtain ⟨rfl, hsz, hP, hK, hD0⟩ := hv
  have hx := B.exec
  have hb := B.bytes
  have hr := B.returns
  have hA9 : ∀ w ∈ WA, w.before _ s = true := fun w h => atoms_spec (ws := .code yL_build bL_build 1 (some .int) :: WA) B.pre w (List.mem_cons_of_mem _ h)
  have hown : s.vm.findClass RL = some m.cls := findClass_of_methodNamed B.named
  have hlocks := B.notSynchronized
  subst hsz
  have hD := aw_D (sz := s.heap.size) hD0
  generalize hAe : AW N ad s.heap.size = A at hD ⊢
  have hA : ∀ q, s.heap.size ≤ q → A q := fun q h => by rw [← hAe]; exact Or.inr h
  clear hAe hD0
  have hl := lv_entry ([.ref (ad 0)]) (n := 1) (Nat.le_of_ble_eq_true rfl)
  rw [lg_entry_eq]
  generalize (lg_sl ([.ref (ad 0)]) ++ List.replicate (1 - (lg_sl ([.ref (ad 0)])).length) Slot.unset).toArray = ls at hl ⊢
  have hl : lv_has ls 1 [(0, .ref (ad 0))] := hl
  refine st0 (A := A) (fun H locs hS hH => ?_)
  rw [← hH] at hP
  clear hH
  refine lv_aload_n hx hb dL_build_0 rfl (lv_at hl 0 rfl) ?_
  refine va_get (D := D) (ci := 2) (v := .ref (ad 2)) (C := RL) (T := TL) (N := 5) hx hb hA9 inL hown hK hP 0 (wx_at (by omega) h0) rfl 1 (by decide) (hA9 _ mfL_16) (fun _ h9 => h9) rfl dL_build_1 ?_
  refine lv_aload_n hx hb dL_build_4 rfl (lv_at hl 0 rfl) ?_
  refine va_get (D := D) (ci := 2) (v := .ref (ad 1)) (C := RL) (T := TL) (N := 5) hx hb hA9 inL hown hK hP 0 (wx_at (by omega) h0) rfl 0 (by decide) (hA9 _ mfL_9) (fun _ h9 => h9) rfl dL_build_5 ?_
  refine lv_aload_n hx hb dL_build_8 rfl (lv_at hl 0 rfl) ?_
  refine va_get (D := D) (ci := 2) (v := .int (nI rl)) (C := RL) (T := TL) (N := 5) hx hb hA9 inL hown hK hP 0 (wx_at (by omega) h0) rfl 3 (by decide) (hA9 _ mfL_23) (fun _ h9 => h9) rfl dL_build_9 ?_
  refine cv (va_runV (As := [.ref (ad 1), .int (nI rl)]) (rest := []) ⟨hx, hb, hml, hown, hA9⟩ (c_T_fill l D cI cO cJ N ad ce H.size (by omega) os n hT rl hrl row o4 o5 h1 hr5 t4 h4 t5 h5) (cwV 2 hA9 (gV mlL_42 miT_fill msT_fill mn_T mkT_fill) rfl rfl rfl (by decide +kernel) ⟨Nat.le_of_ble_eq_true rfl, Nat.le_of_ble_eq_true rfl⟩) ⟨PM_bl, wx_recv hK hP (by omega) hT.1 rfl, PM_mk hK hP hD⟩ rfl rfl hl.1 rfl (lv_room (Nat.le_of_ble_eq_true rfl)) dL_build_12 ⟨Nat.le_of_ble_eq_true rfl, Nat.le_of_ble_eq_true rfl⟩) hS hD hA (fun ce1 H locs hpost hP hD hS => ?_)
  obtain ⟨os1, bT, bW, b4, b5, bf⟩ := hpost
  have y0 := (bf 0 (by omega)).trans h0
  refine lv_aload_n hx hb dL_build_15 rfl (lv_at hl 0 rfl) ?_
  refine va_get (D := D) (ci := 2) (v := .ref (ad 2)) (C := RL) (T := TL) (N := 5) hx hb hA9 inL hown hK hP 0 (wx_at (by omega) y0) rfl 1 (by decide) (hA9 _ mfL_16) (fun _ h9 => h9) rfl dL_build_16 ?_
  refine vp_callSi (va_runV (As := []) (rest := []) ⟨hx, hb, hml, hown, hA9⟩ (c_T_size l D cI cO cJ N ad ce1 (by omega) os1 rl bT) (cwV 0 hA9 (gV mlL_46 miT_size msT_size mn_T mkT_size) rfl rfl rfl (by decide +kernel) ⟨Nat.le_of_ble_eq_true rfl, Nat.le_of_ble_eq_true rfl⟩) ⟨PR_bl, wx_recv hK hP (by omega) bT.1 rfl, PR_mk hK hP⟩ rfl rfl hl.1 rfl (lv_room (Nat.le_of_ble_eq_true rfl)) dL_build_19 ⟨Nat.le_of_ble_eq_true rfl, Nat.le_of_ble_eq_true rfl⟩).run (fun r2 hr2 => ?_)
  obtain rfl : r2 = nI rl := hr2
  exact W.iret (v := (nI rl)) hx hb hr (fun t ht hW => ⟨⟨(nI rl), ce1, rfl, ⟨rfl, os1, bT, bW, b4, b5, bf⟩, by rw [ht]; exact hP, va_K.moved hW.alike hK, hD⟩, hS.F ht⟩) hS.2.2 dL_build_22
end
section
/-! ranges of arguments -/
abbrev m9 (x : Int32) : Nat := x.toBitVec.toNat % 512
theorem and511 (x : Int32) : x &&& nI 511 = nI (m9 x) := pk_and x 9 (by decide +kernel)
theorem m9_lt (x : Int32) : m9 x < 512 := Nat.mod_lt _ (by omega)
theorem rg_mk {x : Int32} {n : Nat} (h1 : ¬ x < 0) (h2 : x ≤ nI n) (hn : n < 2147483648 := by omega) : ∃ k, k ≤ n ∧ x = nI k := by
  obtain ⟨j, hj, rfl⟩ := nI_of h1
  exact ⟨j, (nI_leI hj hn).mp h2, rfl⟩
theorem rg_n1 {x : Int32} (h : x < 0) {P : Nat → Prop} : ¬ ∃ k, (k < 2147483648 ∧ P k) ∧ x = nI k := fun ⟨k, hk, e⟩ => by rw [e] at h; exact nI_pos hk.1 h
theorem neg_n {x : Int32} {k : Nat} (h : x < 0) (e : x = nI k) (hk : k < 2147483648 := by omega) : False := by rw [e] at h; exact nI_pos hk h
theorem rl_mk {x : Int32} {n : Nat} (h1 : ¬ x < 0) (h2 : x < nI n) (hn : n < 2147483648 := by omega) : ∃ k, k < n ∧ x = nI k := by
  obtain ⟨j, hj, rfl⟩ := nI_of h1
  exact ⟨j, (nI_ltI hj hn).mp h2, rfl⟩
theorem pa_mk {x y : Int32} {n : Nat} (h1 : ¬ x < 0) (h2 : ¬ y < x) (h3 : ¬ nI n < y) (hn : n < 2147483648 := by omega) : ∃ u v, u ≤ v ∧ v ≤ n ∧ x = nI u ∧ y = nI v := by
  obtain ⟨u, hu, rfl⟩ := nI_of h1
  have h4 : ¬ y < 0 := fun q => h2 (by
    rw [Int32.lt_iff_toInt_lt, nI_toInt hu]
    rw [Int32.lt_iff_toInt_lt, Int32.toInt_zero] at q
    omega)
  obtain ⟨v, hv, rfl⟩ := nI_of h4
  exact ⟨u, v, nltN h2, nltN h3, rfl, rfl⟩
/-- a number below lim and a part -/
def QA (lim : Nat) (x a b : Int32) (n : Nat) : Prop := ∃ y u v, y < lim ∧ u ≤ v ∧ v ≤ n ∧ x = nI y ∧ a = nI u ∧ b = nI v
/-- a part -/
def PA (a b : Int32) (n : Nat) : Prop := ∃ u v, u ≤ v ∧ v ≤ n ∧ a = nI u ∧ b = nI v
theorem pa_1 {a b : Int32} {n : Nat} (hn : n ≤ 4000) (h : a < 0) : ¬ PA a b n := fun ⟨u, v, h1, h2, e1, e2⟩ => neg_n h e1
theorem pa_2 {a b : Int32} {n : Nat} (hn : n ≤ 4000) (h : b < a) : ¬ PA a b n := fun ⟨u, v, h1, h2, e1, e2⟩ => by
  rw [e1, e2] at h
  have := ltN h
  omega
theorem pa_3 {a b : Int32} {n : Nat} (hn : n ≤ 4000) (h : nI n < b) : ¬ PA a b n := fun ⟨u, v, h1, h2, e1, e2⟩ => by
  rw [e2] at h
  have := ltN h
  omega
theorem qa_p {lim : Nat} {x a b : Int32} {n : Nat} (h : QA lim x a b n) : PA a b n := by
  obtain ⟨y, u, v, h1, h2, h3, e1, e2, e3⟩ := h
  exact ⟨u, v, h2, h3, e2, e3⟩
theorem qa_1 {lim : Nat} {x a b : Int32} {n : Nat} (hl : lim ≤ 513) (h : x < 0) : ¬ QA lim x a b n := fun ⟨y, u, v, h1, h2, h3, e1, e2, e3⟩ => neg_n h e1
theorem qa_2 {lim g : Nat} {x a b : Int32} {n : Nat} (hl : lim = g + 1) (hg : g ≤ 512) (h : nI g < x) : ¬ QA lim x a b n := fun ⟨y, u, v, h1, h2, h3, e1, e2, e3⟩ => by
  rw [e1] at h
  have := ltN h
  omega
theorem nle_lt {x y : Int32} (h : ¬ x ≤ y) : y < x := by
  rw [Int32.lt_iff_toInt_lt]
  rw [Int32.le_iff_toInt_le] at h
  omega
theorem nlt_le {x y : Int32} (h : ¬ x < y) : y ≤ x := by
  rw [Int32.le_iff_toInt_le]
  rw [Int32.lt_iff_toInt_lt] at h
  omega
theorem le_nlt {x y : Int32} (h : x ≤ y) : ¬ y < x := by
  rw [Int32.lt_iff_toInt_lt]
  rw [Int32.le_iff_toInt_le] at h
  omega
end
section
/-! rows for the plain reading of a part, place by place and number by number -/
theorem eq_s0 {f : Nat → Nat} {y u k : Nat} (h : u ≤ k) (hf : f k ≠ y) : eq f y u (k + 1) = eq f y u k := by
  unfold eq; rw [ct_s _ h, if_neg (by simpa using hf)]; rfl
theorem eq_s1 {f : Nat → Nat} {y u k : Nat} (h : u ≤ k) (hf : f k = y) : eq f y u (k + 1) = eq f y u k + 1 := by
  unfold eq; rw [ct_s _ h, if_pos (by simpa using hf)]
theorem lq_s0 {f : Nat → Nat} {y u k : Nat} (h : u ≤ k) (hf : y ≤ f k) : lq f y u (k + 1) = lq f y u k := by
  unfold lq; rw [ct_s _ h, if_neg (by simpa using hf)]; rfl
theorem lq_s1 {f : Nat → Nat} {y u k : Nat} (h : u ≤ k) (hf : f k < y) : lq f y u (k + 1) = lq f y u k + 1 := by
  unfold lq; rw [ct_s _ h, if_pos (by simpa using hf)]
/-- -1, or a number -/
def bI (o : Option Nat) : Int32 := match o with
  | none => -1
  | some w => nI w
theorem m1_lt {w : Nat} (h : w < 2147483648) : ¬ nI w ≤ (-1) := by
  rw [Int32.le_iff_toInt_le, nI_toInt h, show ((-1 : Int32)).toInt = -1 from by decide +kernel]
  omega
/-- the greatest of the part u .. k that is not above y -/
def BM (f : Nat → Nat) (y u k : Nat) (o : Option Nat) : Prop := match o with
  | none => ∀ i, u ≤ i → i < k → y < f i
  | some w => (∃ i, u ≤ i ∧ i < k ∧ f i = w) ∧ w ≤ y ∧ ∀ i, u ≤ i → i < k → f i ≤ y → f i ≤ w
theorem BM.z {f : Nat → Nat} {y u : Nat} : BM f y u u none := fun i h1 h2 => absurd h2 (by omega)
theorem BM.skip {f : Nat → Nat} {y u k : Nat} {o : Option Nat} (h : BM f y u k o) (hk : y < f k ∨ ∃ w, o = some w ∧ f k ≤ w) : BM f y u (k + 1) o := by
  cases o with
  | none =>
    intro i h1 h2
    rcases Nat.lt_or_ge i k with q | q
    · exact h i h1 q
    · obtain rfl : i = k := by omega
      rcases hk with a | ⟨w, hw, -⟩
      · exact a
      · cases hw
  | some w =>
    obtain ⟨⟨i, a1, a2, a3⟩, h2, h3⟩ := h
    refine ⟨⟨i, a1, by omega, a3⟩, h2, fun t b1 b2 b3 => ?_⟩
    rcases Nat.lt_or_ge t k with q | q
    · exact h3 t b1 q b3
    · obtain rfl : t = k := by omega
      rcases hk with a | ⟨w1, hw, ha⟩
      · omega
      · cases hw; exact ha
theorem BM.take {f : Nat → Nat} {y u k : Nat} {o : Option Nat} (h : BM f y u k o) (hu : u ≤ k) (hk : f k ≤ y) (hw : ∀ w, o = some w → w < f k) : BM f y u (k + 1) (some (f k)) := by
  refine ⟨⟨k, hu, by omega, rfl⟩, hk, fun t b1 b2 b3 => ?_⟩
  rcases Nat.lt_or_ge t k with q | q
  · cases o with
    | none => have := h t b1 q; omega
    | some w =>
      have := h.2.2 t b1 q b3
      have := hw w rfl
      omega
  · obtain rfl : t = k := by omega
    exact Nat.le_refl _
theorem BM.one {f : Nat → Nat} {y u k : Nat} {o o2 : Option Nat} (h : BM f y u k o) (h2 : BM f y u k o2) : o = o2 := by
  cases o with
  | none =>
    cases o2 with
    | none => rfl
    | some w =>
      obtain ⟨⟨i, a1, a2, a3⟩, b, -⟩ := h2
      have := h i a1 a2
      omega
  | some w =>
    cases o2 with
    | none =>
      obtain ⟨⟨i, a1, a2, a3⟩, b, -⟩ := h
      have := h2 i a1 a2
      omega
    | some w2 =>
      obtain ⟨⟨i, a1, a2, a3⟩, b, d⟩ := h
      obtain ⟨⟨j, x1, x2, x3⟩, y1, z⟩ := h2
      have p1 := d j x1 x2 (by omega)
      have p2 := z i a1 a2 (by omega)
      rw [show w = w2 by omega]
/-- the most frequent of the numbers below w, of several the least -/
def MM (f : Nat → Nat) (u v w : Nat) (o : Option Nat) : Prop := match o with
  | none => ∀ t, t < w → eq f t u v = 0
  | some b => b < w ∧ 0 < eq f b u v ∧ ∀ t, t < w → eq f t u v ≤ eq f b u v ∧ (t < b → eq f t u v < eq f b u v)
theorem MM.z {f : Nat → Nat} {u v : Nat} : MM f u v 0 none := fun t h => absurd h (by omega)
theorem MM.skip {f : Nat → Nat} {u v w : Nat} {o : Option Nat} (h : MM f u v w o) (hw : eq f w u v = 0 ∨ ∃ b, o = some b ∧ eq f w u v ≤ eq f b u v) : MM f u v (w + 1) o := by
  cases o with
  | none =>
    intro t ht
    rcases Nat.lt_or_ge t w with q | q
    · exact h t q
    · obtain rfl : t = w := by omega
      rcases hw with a | ⟨b, hb, -⟩
      · exact a
      · cases hb
  | some b =>
    obtain ⟨h1, h2, h3⟩ := h
    refine ⟨by omega, h2, fun t ht => ?_⟩
    rcases Nat.lt_or_ge t w with q | q
    · exact h3 t q
    · obtain rfl : t = w := by omega
      rcases hw with a | ⟨b1, hb, a⟩
      · exact ⟨by omega, fun q2 => absurd q2 (by omega)⟩
      · cases hb; exact ⟨a, fun q2 => absurd q2 (by omega)⟩
theorem MM.take {f : Nat → Nat} {u v w : Nat} {o : Option Nat} (h : MM f u v w o) (hp : 0 < eq f w u v) (hw : ∀ b, o = some b → eq f b u v < eq f w u v) : MM f u v (w + 1) (some w) := by
  refine ⟨by omega, hp, fun t ht => ?_⟩
  rcases Nat.lt_or_ge t w with q | q
  · cases o with
    | none => have := h t q; exact ⟨by omega, fun _ => by omega⟩
    | some b =>
      have a1 := (h.2.2 t q).1
      have a2 := hw b rfl
      exact ⟨by omega, fun _ => by omega⟩
  · obtain rfl : t = w := by omega
    exact ⟨Nat.le_refl _, fun q2 => absurd q2 (by omega)⟩
theorem MM.one {f : Nat → Nat} {u v w : Nat} {o o2 : Option Nat} (h : MM f u v w o) (h2 : MM f u v w o2) : o = o2 := by
  cases o with
  | none =>
    cases o2 with
    | none => rfl
    | some b => have := h b h2.1; have := h2.2.1; omega
  | some b =>
    cases o2 with
    | none => have := h2 b h.1; have := h.2.1; omega
    | some b2 =>
      rcases Nat.lt_trichotomy b b2 with q | q | q
      · have a1 := (h2.2.2 b h.1).2 q
        have a2 := (h.2.2 b2 h2.1).1
        omega
      · rw [q]
      · have a1 := (h.2.2 b2 h2.1).2 q
        have a2 := (h2.2.2 b h.1).1
        omega
/-- how many different numbers below w the part has -/
def nd (f : Nat → Nat) (u v w : Nat) : Nat := cn (fun t => decide (0 < eq f t u v)) w
theorem nd_le (f : Nat → Nat) (u v w : Nat) : nd f u v w ≤ w := cn_le _ _
theorem nd_s0 {f : Nat → Nat} {u v w : Nat} (h : eq f w u v = 0) : nd f u v (w + 1) = nd f u v w := cn_f (by simp [h])
theorem nd_s1 {f : Nat → Nat} {u v w : Nat} (h : 0 < eq f w u v) : nd f u v (w + 1) = nd f u v w + 1 := cn_t (by simp [h])
theorem nd_mono (f : Nat → Nat) (u v : Nat) {a b : Nat} (h : a ≤ b) : nd f u v a ≤ nd f u v b := cn_mono _ h
/-- what different lays down: the numbers below w, in order, and how often -/
def DF (f : Nat → Nat) (u v w : Nat) (a b : Nat → Int32) : Prop := ∀ t, t < w → 0 < eq f t u v → a (nd f u v t) = nI t ∧ b (nd f u v t) = nI (eq f t u v)
theorem DF.skip {f : Nat → Nat} {u v w : Nat} {a b : Nat → Int32} (h : DF f u v w a b) (hw : eq f w u v = 0) : DF f u v (w + 1) a b := fun t ht hp => by
  rcases Nat.lt_or_ge t w with q | q
  · exact h t q hp
  · obtain rfl : t = w := by omega
    omega
theorem DF.put {f : Nat → Nat} {u v w : Nat} {a b : Nat → Int32} (h : DF f u v w a b) (hw : 0 < eq f w u v) : DF f u v (w + 1) (upd a (nd f u v w) (nI w)) (upd b (nd f u v w) (nI (eq f w u v))) := fun t ht hp => by
  rcases Nat.lt_or_ge t w with q | q
  · have h1 : nd f u v t ≠ nd f u v w := by
      have := nd_mono f u v (show t + 1 ≤ w by omega)
      rw [nd_s1 hp] at this
      omega
    rw [pk_un h1, pk_un h1]
    exact h t q hp
  · obtain rfl : t = w := by omega
    exact ⟨pk_us, pk_us⟩
end
section
set_option maxHeartbeats 4000000 in
set_option maxRecDepth 100000 in
theorem c_M_thrown (l : Launch) (D : va_G) (cI cO cJ : ClassId) (N : Nat) (ad : Nat → Nat) (ce : Nat → va_E) (hN : 40 ≤ N) (th : Int32) (rs bu tl : Nat) (h0 : ce 34 = .inr (3, [.int (th), .ref (ad 35), .ref (ad 36), .ref (ad 37), .ref (ad 38), .ref (ad 39), .int (nI rs), .int (nI bu), .int (nI tl)])) : Met l yM_thrown (.code yM_thrown bM_thrown 1 (some .int) :: WA) ({ frames := 0, cells := 0, slots := 0, locals := 0 }) (PR D (TY cI cO cJ) N ad ce [.ref (ad 34)]) (vp_Si (fun r => r = th)) 0 0 (fun _ => False) := by
  refine Met.ofW (cc := bM_thrown) (maxL := 1) (ret := (some .int)) (by decide) rfl ?_
  intro p e s m args below meth c s₁ B hml hv
  obtain ⟨rfl, hP, hK⟩ := hv
  have hx := B.exec
  have hb := B.bytes
  have hr := B.returns
  have hA9 : ∀ w ∈ WA, w.before _ s = true := fun w h => atoms_spec (ws := .code yM_thrown bM_thrown 1 (some .int) :: WA) B.pre w (List.mem_cons_of_mem _ h)
  have hown : s.vm.findClass RM = some m.cls := findClass_of_methodNamed B.named
  have hlocks := B.notSynchronized
  have hl := lv_entry ([.ref (ad 34)]) (n := 1) (Nat.le_of_ble_eq_true rfl)
  rw [lg_entry_eq]
  generalize (lg_sl ([.ref (ad 34)]) ++ List.replicate (1 - (lg_sl ([.ref (ad 34)])).length) Slot.unset).toArray = ls at hl ⊢
  have hl : lv_has ls 1 [(0, .ref (ad 34))] := hl
  refine lv_aload_n hx hb dM_thrown_0 rfl (lv_at hl 0 rfl) ?_
  refine va_get (D := D) (ci := 3) (v := .int (th)) (C := RM) (T := TM) (N := 9) hx hb hA9 inM hown hK hP 34 (wx_at (by omega) h0) rfl 0 (by decide) (hA9 _ mfM_7) (fun _ h9 => h9) rfl dM_thrown_1 ?_
  exact W.iret (v := (th)) hx hb hr (fun t ht hW => ⟨(th), rfl, rfl, ht⟩) (fun q h => nomatch h) dM_thrown_4

set_option maxHeartbeats 4000000 in
set_option maxRecDepth 100000 in
theorem c_M_refuse (l : Launch) (D : va_G) (cI cO cJ : ClassId) (N : Nat) (ad : Nat → Nat) (ce : Nat → va_E) (sz : Nat) (hN : 40 ≤ N) (th : Int32) (rs bu tl : Nat) (h0 : ce 34 = .inr (3, [.int (th), .ref (ad 35), .ref (ad 36), .ref (ad 37), .ref (ad 38), .ref (ad 39), .int (nI rs), .int (nI bu), .int (nI tl)])) (kk : Nat) (x : Bool) : Met l yM_refuse (.code yM_refuse bM_refuse 3 (some .boolean) :: WA) ({ frames := 0, cells := 0, slots := 0, locals := 0 }) (PM D (TY cI cO cJ) N ad ce sz [.ref (ad 34), .int (nI kk), .int (nI (bN x))]) (va_Qi (fun (r : Int32) (ce1 : Nat → va_E) => r = nI (bN x) ∧ (∀ j, j ≠ 34 → ce1 j = ce j) ∧ ce1 34 = .inr (3, [.int (if x = true then nI kk else th), .ref (ad 35), .ref (ad 36), .ref (ad 37), .ref (ad 38), .ref (ad 39), .int (nI rs), .int (nI bu), .int (nI tl)])) (BW D (TY cI cO cJ) N ad (AW N ad sz)) (AW N ad sz)) 0 0 (AW N ad sz) := by
  refine Met.ofW (cc := bM_refuse) (maxL := 3) (ret := (some .boolean)) (by decide) rfl ?_
  intro p e s m args below meth c s₁ B hml hv
  obtain ⟨rfl, hsz, hP, hK, hD0⟩ := hv
  have hx := B.exec
  have hb := B.bytes
  have hr := B.returns
  have hA9 : ∀ w ∈ WA, w.before _ s = true := fun w h => atoms_spec (ws := .code yM_refuse bM_refuse 3 (some .boolean) :: WA) B.pre w (List.mem_cons_of_mem _ h)
  have hown : s.vm.findClass RM = some m.cls := findClass_of_methodNamed B.named
  have hlocks := B.notSynchronized
  subst hsz
  have hD := aw_D (sz := s.heap.size) hD0
  generalize hAe : AW N ad s.heap.size = A at hD ⊢
  have hA : ∀ q, s.heap.size ≤ q → A q := fun q h => by rw [← hAe]; exact Or.inr h
  clear hAe hD0
  have hl := lv_entry ([.ref (ad 34), .int (nI kk), .int (nI (bN x))]) (n := 3) (Nat.le_of_ble_eq_true rfl)
  rw [lg_entry_eq]
  generalize (lg_sl ([.ref (ad 34), .int (nI kk), .int (nI (bN x))]) ++ List.replicate (3 - (lg_sl ([.ref (ad 34), .int (nI kk), .int (nI (bN x))])).length) Slot.unset).toArray = ls at hl ⊢
  have hl : lv_has ls 3 [(0, .ref (ad 34)), (1, .int (nI kk)), (2, .int (nI (bN x)))] := hl
  refine st0 (A := A) (fun H locs hS hH => ?_)
  rw [← hH] at hP
  clear hH
  refine lv_iload_n hx hb dM_refuse_0 rfl (lv_at hl 2 rfl) ?_
  refine lv_if_eq (tgt := 9) hx hb dM_refuse_1 (by decide) (fun c1 => ?_) (fun c1 => ?_)
  · skip
    have hx9 := bz_f c1
    refine lv_iload_n hx hb dM_refuse_9 rfl (lv_at hl 2 rfl) ?_
    exact W.zret (v := (nI (bN x))) hx hb hr (by cases x <;> rfl) (fun t ht hW => ⟨⟨(nI (bN x)), ce, rfl, ⟨rfl, (fun j _ => rfl), by rw [hx9]; exact h0⟩, by rw [ht]; exact hP, va_K.moved hW.alike hK, hD⟩, hS.F ht⟩) hS.2.2 dM_refuse_10
  · skip
    have hx9 := bz_t c1
    refine lv_aload_n hx hb dM_refuse_4 rfl (lv_at hl 0 rfl) ?_
    refine lv_iload_n hx hb dM_refuse_5 rfl (lv_at hl 1 rfl) ?_
    refine va_put (D := D) (ci := 3) (v := .int (nI kk)) (ty := .int) (C := RM) (T := TM) (N := 9) hx hb hA9 inM tyM tyM_ok nmM hown hK hP hD hS 34 (wx_at (by omega) h0) rfl 0 (by decide) (hA9 _ mfM_7) (fun _ h9 => h9) rfl (by decide +kernel) rfl rfl (Nat.le_of_ble_eq_true rfl) dM_refuse_6 (fun H locs hP hD hS => ?_)
    replace hP : va_P D CLS ((wx N ad ce).set 34 (ad 34, .inr (3, [.int (nI kk), .ref (ad 35), .ref (ad 36), .ref (ad 37), .ref (ad 38), .ref (ad 39), .int (nI rs), .int (nI bu), .int (nI tl)]))) H := hP
    replace hD : va_D A ((wx N ad ce).set 34 (ad 34, .inr (3, [.int (nI kk), .ref (ad 35), .ref (ad 36), .ref (ad 37), .ref (ad 38), .ref (ad 39), .int (nI rs), .int (nI bu), .int (nI tl)]))) := hD
    obtain ⟨ce1, hce1⟩ : ∃ z9, z9 = va_up ce 34 (.inr (3, [.int (nI kk), .ref (ad 35), .ref (ad 36), .ref (ad 37), .ref (ad 38), .ref (ad 39), .int (nI rs), .int (nI bu), .int (nI tl)])) := ⟨_, rfl⟩
    rw [wx_set (by omega), ← hce1] at hP hD
    have q1 : ce1 34 = .inr (3, [.int (nI kk), .ref (ad 35), .ref (ad 36), .ref (ad 37), .ref (ad 38), .ref (ad 39), .int (nI rs), .int (nI bu), .int (nI tl)]) := by rw [hce1, va_up_self]
    have fr2 : ∀ j, j ≠ 34 → ce1 j = ce j := fun j h0 => by rw [hce1, va_up_ne _ _ h0]
    refine lv_iload_n hx hb dM_refuse_9 rfl (lv_at hl 2 rfl) ?_
    exact W.zret (v := (nI (bN x))) hx hb hr (by cases x <;> rfl) (fun t ht hW => ⟨⟨(nI (bN x)), ce1, rfl, ⟨rfl, (fun j g0 => fr2 j g0), by rw [hx9]; exact q1⟩, by rw [ht]; exact hP, va_K.moved hW.alike hK, hD⟩, hS.F ht⟩) hS.2.2 dM_refuse_10

set_option maxHeartbeats 4000000 in
set_option maxRecDepth 100000 in
theorem c_M_add (l : Launch) (D : va_G) (cI cO cJ : ClassId) (N : Nat) (ad : Nat → Nat) (ce : Nat → va_E) (sz : Nat) (hN : 40 ≤ N) (th : Int32) (rs bu tl : Nat) (h0 : ce 34 = .inr (3, [.int (th), .ref (ad 35), .ref (ad 36), .ref (ad 37), .ref (ad 38), .ref (ad 39), .int (nI rs), .int (nI bu), .int (nI tl)])) (mrow : Nat → Int32) (h1 : ce 35 = .inl (cI, 4000, .inl mrow)) (hrs : rs ≤ 3997) (a1 a2 a3 : Int32) : Met l yM_add (.code yM_add bM_add 4 (some .int) :: WA) ({ frames := 1, cells := 0, slots := 0, locals := 22 }) (PM D (TY cI cO cJ) N ad ce sz [.ref (ad 34), .int (a1), .int (a2), .int (a3)]) (va_Qi (fun (r : Int32) (ce1 : Nat → va_E) => r = nI (rs + 3) ∧ (∀ j, j ≠ 34 → j ≠ 35 → ce1 j = ce j) ∧ ce1 34 = .inr (3, [.int (nI 0), .ref (ad 35), .ref (ad 36), .ref (ad 37), .ref (ad 38), .ref (ad 39), .int (nI (rs + 3)), .int (nI bu), .int (nI tl)]) ∧ ce1 35 = .inl (cI, 4000, .inl (upd (upd (upd mrow rs (nI (m9 a1))) (rs + 1) (nI (m9 a2))) (rs + 2) (nI (m9 a3))))) (BW D (TY cI cO cJ) N ad (AW N ad sz)) (AW N ad sz)) 0 0 (AW N ad sz) := by
  refine Met.ofW (cc := bM_add) (maxL := 4) (ret := (some .int)) (by decide) rfl ?_
  intro p e s m args below meth c s₁ B hml hv
  obtain ⟨rfl, hsz, hP, hK, hD0⟩ := hv
  have hx := B.exec
  have hb := B.bytes
  have hr := B.returns
  have hA9 : ∀ w ∈ WA, w.before _ s = true := fun w h => atoms_spec (ws := .code yM_add bM_add 4 (some .int) :: WA) B.pre w (List.mem_cons_of_mem _ h)
  have hown : s.vm.findClass RM = some m.cls := findClass_of_methodNamed B.named
  have hlocks := B.notSynchronized
  subst hsz
  have hD := aw_D (sz := s.heap.size) hD0
  generalize hAe : AW N ad s.heap.size = A at hD ⊢
  have hA : ∀ q, s.heap.size ≤ q → A q := fun q h => by rw [← hAe]; exact Or.inr h
  clear hAe hD0
  have hl := lv_entry ([.ref (ad 34), .int (a1), .int (a2), .int (a3)]) (n := 4) (Nat.le_of_ble_eq_true rfl)
  rw [lg_entry_eq]
  generalize (lg_sl ([.ref (ad 34), .int (a1), .int (a2), .int (a3)]) ++ List.replicate (4 - (lg_sl ([.ref (ad 34), .int (a1), .int (a2), .int (a3)])).length) Slot.unset).toArray = ls at hl ⊢
  have hl : lv_has ls 4 [(0, .ref (ad 34)), (1, .int (a1)), (2, .int (a2)), (3, .int (a3))] := hl
  refine st0 (A := A) (fun H locs hS hH => ?_)
  rw [← hH] at hP
  clear hH
  refine lv_aload_n hx hb dM_add_0 rfl (lv_at hl 0 rfl) ?_
  refine lv_iconst (v := nI 0) hx hb dM_add_1 (by decide +kernel) ?_
  refine va_put (D := D) (ci := 3) (v := .int (nI 0)) (ty := .int) (C := RM) (T := TM) (N := 9) hx hb hA9 inM tyM tyM_ok nmM hown hK hP hD hS 34 (wx_at (by omega) h0) rfl 0 (by decide) (hA9 _ mfM_7) (fun _ h9 => h9) rfl (by decide +kernel) rfl rfl (Nat.le_of_ble_eq_true rfl) dM_add_2 (fun H locs hP hD hS => ?_)
  replace hP : va_P D CLS ((wx N ad ce).set 34 (ad 34, .inr (3, [.int (nI 0), .ref (ad 35), .ref (ad 36), .ref (ad 37), .ref (ad 38), .ref (ad 39), .int (nI rs), .int (nI bu), .int (nI tl)]))) H := hP
  replace hD : va_D A ((wx N ad ce).set 34 (ad 34, .inr (3, [.int (nI 0), .ref (ad 35), .ref (ad 36), .ref (ad 37), .ref (ad 38), .ref (ad 39), .int (nI rs), .int (nI bu), .int (nI tl)]))) := hD
  obtain ⟨ce1, hce1⟩ : ∃ z9, z9 = va_up ce 34 (.inr (3, [.int (nI 0), .ref (ad 35), .ref (ad 36), .ref (ad 37), .ref (ad 38), .ref (ad 39), .int (nI rs), .int (nI bu), .int (nI tl)])) := ⟨_, rfl⟩
  rw [wx_set (by omega), ← hce1] at hP hD
  have q1 : ce1 35 = .inl (cI, 4000, .inl mrow) := by rw [hce1, va_up_ne _ _ (by omega)]; exact h1
  have q2 : ce1 34 = .inr (3, [.int (nI 0), .ref (ad 35), .ref (ad 36), .ref (ad 37), .ref (ad 38), .ref (ad 39), .int (nI rs), .int (nI bu), .int (nI tl)]) := by rw [hce1, va_up_self]
  have fr3 : ∀ j, j ≠ 34 → ce1 j = ce j := fun j h0 => by rw [hce1, va_up_ne _ _ h0]
  refine lv_aload_n hx hb dM_add_5 rfl (lv_at hl 0 rfl) ?_
  refine lv_iconst (v := nI 1) hx hb dM_add_6 (by decide +kernel) ?_
  refine lv_aload_n hx hb dM_add_7 rfl (lv_at hl 0 rfl) ?_
  refine va_get (D := D) (ci := 3) (v := .int (nI rs)) (C := RM) (T := TM) (N := 9) hx hb hA9 inM hown hK hP 34 (wx_at (by omega) q2) rfl 6 (by decide) (hA9 _ mfM_29) (fun _ h9 => h9) rfl dM_add_8 ?_
  refine lv_sipush (v := nI 3997) hx hb dM_add_11 (by decide +kernel) ?_
  refine lv_icmp_le (tgt := 21) hx hb dM_add_14 (by decide) (fun c14 => ?_) (fun c14 => ?_)
  · skip
    refine lv_iconst (v := nI (bN false)) hx hb dM_add_21 (by decide +kernel) ?_
    refine cvi (va_runV (As := [.int (nI 1), .int (nI (bN false))]) (rest := []) ⟨hx, hb, hml, hown, hA9⟩ (c_M_refuse l D cI cO cJ N ad ce1 H.size hN (nI 0) rs bu tl q2 1 false) (cwV 2 hA9 (gV mlM_38 miM_refuse msM_refuse mn_M mkM_refuse) rfl rfl rfl (by decide +kernel) ⟨Nat.le_of_ble_eq_true rfl, Nat.le_of_ble_eq_true rfl⟩) ⟨PM_bl, wx_recv hK hP (by omega) q2 rfl, PM_mk hK hP hD⟩ rfl rfl hl.1 rfl (lv_room (Nat.le_of_ble_eq_true rfl)) dM_add_22 ⟨Nat.le_of_ble_eq_true rfl, Nat.le_of_ble_eq_true rfl⟩) hS hD hA (fun r4 ce2 H locs hpost hP hD hS => ?_)
    obtain ⟨rfl, rf, rz⟩ := hpost
    have q5 : ce2 34 = .inr (3, [.int (nI 0), .ref (ad 35), .ref (ad 36), .ref (ad 37), .ref (ad 38), .ref (ad 39), .int (nI rs), .int (nI bu), .int (nI tl)]) := rz
    have q6 : ce2 35 = .inl (cI, 4000, .inl mrow) := (rf 35 (by omega)).trans q1
    have fr7 : ∀ j, j ≠ 34 → ce2 j = ce j := fun j g0 => (rf j g0).trans (fr3 j g0)
    refine lv_if_eq (tgt := 30) hx hb dM_add_25 (by decide) (fun c25 => ?_) (fun c25 => ?_)
    · skip
      refine lv_aload_n hx hb dM_add_30 rfl (lv_at hl 0 rfl) ?_
      refine va_get (D := D) (ci := 3) (v := .ref (ad 35)) (C := RM) (T := TM) (N := 9) hx hb hA9 inM hown hK hP 34 (wx_at (by omega) q5) rfl 1 (by decide) (hA9 _ mfM_13) (fun _ h9 => h9) rfl dM_add_31 ?_
      refine lv_aload_n hx hb dM_add_34 rfl (lv_at hl 0 rfl) ?_
      refine lv_dup hx hb dM_add_35 rfl ?_
      refine va_get (D := D) (ci := 3) (v := .int (nI rs)) (C := RM) (T := TM) (N := 9) hx hb hA9 inM hown hK hP 34 (wx_at (by omega) q5) rfl 6 (by decide) (hA9 _ mfM_29) (fun _ h9 => h9) rfl dM_add_36 ?_
      refine lv_dup_x1 hx hb dM_add_39 rfl rfl ?_
      refine lv_iconst (v := nI 1) hx hb dM_add_40 (by decide +kernel) ?_
      refine lv_iadd hx hb dM_add_41 ?_
      refine lv_topi (fun z8 ez8 => ?_)
      obtain rfl : z8 = nI (rs + 1) := by rw [ez8]; exact nI_add _ _
      refine va_put (D := D) (ci := 3) (v := .int (nI (rs + 1))) (ty := .int) (C := RM) (T := TM) (N := 9) hx hb hA9 inM tyM tyM_ok nmM hown hK hP hD hS 34 (wx_at (by omega) q5) rfl 6 (by decide) (hA9 _ mfM_29) (fun _ h9 => h9) rfl (by decide +kernel) rfl rfl (Nat.le_of_ble_eq_true rfl) dM_add_42 (fun H locs hP hD hS => ?_)
      replace hP : va_P D CLS ((wx N ad ce2).set 34 (ad 34, .inr (3, [.int (nI 0), .ref (ad 35), .ref (ad 36), .ref (ad 37), .ref (ad 38), .ref (ad 39), .int (nI (rs + 1)), .int (nI bu), .int (nI tl)]))) H := hP
      replace hD : va_D A ((wx N ad ce2).set 34 (ad 34, .inr (3, [.int (nI 0), .ref (ad 35), .ref (ad 36), .ref (ad 37), .ref (ad 38), .ref (ad 39), .int (nI (rs + 1)), .int (nI bu), .int (nI tl)]))) := hD
      obtain ⟨ce3, hce3⟩ : ∃ z9, z9 = va_up ce2 34 (.inr (3, [.int (nI 0), .ref (ad 35), .ref (ad 36), .ref (ad 37), .ref (ad 38), .ref (ad 39), .int (nI (rs + 1)), .int (nI bu), .int (nI tl)])) := ⟨_, rfl⟩
      rw [wx_set (by omega), ← hce3] at hP hD
      have q9 : ce3 35 = .inl (cI, 4000, .inl mrow) := by rw [hce3, va_up_ne _ _ (by omega)]; exact q6
      have q10 : ce3 34 = .inr (3, [.int (nI 0), .ref (ad 35), .ref (ad 36), .ref (ad 37), .ref (ad 38), .ref (ad 39), .int (nI (rs + 1)), .int (nI bu), .int (nI tl)]) := by rw [hce3, va_up_self]
      have fr11 : ∀ j, j ≠ 34 → ce3 j = ce j := fun j h0 => by rw [hce3, va_up_ne _ _ h0]; exact fr7 j h0
      refine lv_iload_n hx hb dM_add_45 rfl (lv_at hl 1 rfl) ?_
      refine lv_sipush (v := nI 511) hx hb dM_add_46 (by decide +kernel) ?_
      refine lv_iand hx hb dM_add_49 ?_
      refine lv_topi (fun z12 ez12 => ?_)
      obtain rfl : z12 = nI (m9 a1) := by rw [ez12]; exact and511 _
      refine va_iast hx hb hK hP hD hS 35 0 (wx_at (by omega) q9) rfl (inN) dM_add_50 (fun H locs hP hD hS => ?_)
      rw [clN (a := rs)] at hP hD
      obtain ⟨ce4, hce4⟩ : ∃ z9, z9 = va_up ce3 35 (.inl (cI, 4000, .inl (upd mrow rs (nI (m9 a1))))) := ⟨_, rfl⟩
      rw [wx_set (by omega), ← hce4] at hP hD
      have q13 : ce4 34 = .inr (3, [.int (nI 0), .ref (ad 35), .ref (ad 36), .ref (ad 37), .ref (ad 38), .ref (ad 39), .int (nI (rs + 1)), .int (nI bu), .int (nI tl)]) := by rw [hce4, va_up_ne _ _ (by omega)]; exact q10
      have q14 : ce4 35 = .inl (cI, 4000, .inl (upd mrow rs (nI (m9 a1)))) := by rw [hce4, va_up_self]
      have fr15 : ∀ j, j ≠ 34 → j ≠ 35 → ce4 j = ce j := fun j h0 h1 => by rw [hce4, va_up_ne _ _ h1]; exact fr11 j h0
      refine lv_aload_n hx hb dM_add_51 rfl (lv_at hl 0 rfl) ?_
      refine va_get (D := D) (ci := 3) (v := .ref (ad 35)) (C := RM) (T := TM) (N := 9) hx hb hA9 inM hown hK hP 34 (wx_at (by omega) q13) rfl 1 (by decide) (hA9 _ mfM_13) (fun _ h9 => h9) rfl dM_add_52 ?_
      refine lv_aload_n hx hb dM_add_55 rfl (lv_at hl 0 rfl) ?_
      refine lv_dup hx hb dM_add_56 rfl ?_
      refine va_get (D := D) (ci := 3) (v := .int (nI (rs + 1))) (C := RM) (T := TM) (N := 9) hx hb hA9 inM hown hK hP 34 (wx_at (by omega) q13) rfl 6 (by decide) (hA9 _ mfM_29) (fun _ h9 => h9) rfl dM_add_57 ?_
      refine lv_dup_x1 hx hb dM_add_60 rfl rfl ?_
      refine lv_iconst (v := nI 1) hx hb dM_add_61 (by decide +kernel) ?_
      refine lv_iadd hx hb dM_add_62 ?_
      refine lv_topi (fun z16 ez16 => ?_)
      obtain rfl : z16 = nI (rs + 2) := by rw [ez16]; exact nI_add _ _
      refine va_put (D := D) (ci := 3) (v := .int (nI (rs + 2))) (ty := .int) (C := RM) (T := TM) (N := 9) hx hb hA9 inM tyM tyM_ok nmM hown hK hP hD hS 34 (wx_at (by omega) q13) rfl 6 (by decide) (hA9 _ mfM_29) (fun _ h9 => h9) rfl (by decide +kernel) rfl rfl (Nat.le_of_ble_eq_true rfl) dM_add_63 (fun H locs hP hD hS => ?_)
      replace hP : va_P D CLS ((wx N ad ce4).set 34 (ad 34, .inr (3, [.int (nI 0), .ref (ad 35), .ref (ad 36), .ref (ad 37), .ref (ad 38), .ref (ad 39), .int (nI (rs + 2)), .int (nI bu), .int (nI tl)]))) H := hP
      replace hD : va_D A ((wx N ad ce4).set 34 (ad 34, .inr (3, [.int (nI 0), .ref (ad 35), .ref (ad 36), .ref (ad 37), .ref (ad 38), .ref (ad 39), .int (nI (rs + 2)), .int (nI bu), .int (nI tl)]))) := hD
      obtain ⟨ce5, hce5⟩ : ∃ z9, z9 = va_up ce4 34 (.inr (3, [.int (nI 0), .ref (ad 35), .ref (ad 36), .ref (ad 37), .ref (ad 38), .ref (ad 39), .int (nI (rs + 2)), .int (nI bu), .int (nI tl)])) := ⟨_, rfl⟩
      rw [wx_set (by omega), ← hce5] at hP hD
      have q17 : ce5 35 = .inl (cI, 4000, .inl (upd mrow rs (nI (m9 a1)))) := by rw [hce5, va_up_ne _ _ (by omega)]; exact q14
      have q18 : ce5 34 = .inr (3, [.int (nI 0), .ref (ad 35), .ref (ad 36), .ref (ad 37), .ref (ad 38), .ref (ad 39), .int (nI (rs + 2)), .int (nI bu), .int (nI tl)]) := by rw [hce5, va_up_self]
      have fr19 : ∀ j, j ≠ 34 → j ≠ 35 → ce5 j = ce j := fun j h0 h1 => by rw [hce5, va_up_ne _ _ h0]; exact fr15 j h0 h1
      refine lv_iload_n hx hb dM_add_66 rfl (lv_at hl 2 rfl) ?_
      refine lv_sipush (v := nI 511) hx hb dM_add_67 (by decide +kernel) ?_
      refine lv_iand hx hb dM_add_70 ?_
      refine lv_topi (fun z20 ez20 => ?_)
      obtain rfl : z20 = nI (m9 a2) := by rw [ez20]; exact and511 _
      refine va_iast hx hb hK hP hD hS 35 0 (wx_at (by omega) q17) rfl (inN) dM_add_71 (fun H locs hP hD hS => ?_)
      rw [clN (a := (rs + 1))] at hP hD
      obtain ⟨ce6, hce6⟩ : ∃ z9, z9 = va_up ce5 35 (.inl (cI, 4000, .inl (upd (upd mrow rs (nI (m9 a1))) (rs + 1) (nI (m9 a2))))) := ⟨_, rfl⟩
      rw [wx_set (by omega), ← hce6] at hP hD
      have q21 : ce6 34 = .inr (3, [.int (nI 0), .ref (ad 35), .ref (ad 36), .ref (ad 37), .ref (ad 38), .ref (ad 39), .int (nI (rs + 2)), .int (nI bu), .int (nI tl)]) := by rw [hce6, va_up_ne _ _ (by omega)]; exact q18
      have q22 : ce6 35 = .inl (cI, 4000, .inl (upd (upd mrow rs (nI (m9 a1))) (rs + 1) (nI (m9 a2)))) := by rw [hce6, va_up_self]
      have fr23 : ∀ j, j ≠ 34 → j ≠ 35 → ce6 j = ce j := fun j h0 h1 => by rw [hce6, va_up_ne _ _ h1]; exact fr19 j h0 h1
      refine lv_aload_n hx hb dM_add_72 rfl (lv_at hl 0 rfl) ?_
      refine va_get (D := D) (ci := 3) (v := .ref (ad 35)) (C := RM) (T := TM) (N := 9) hx hb hA9 inM hown hK hP 34 (wx_at (by omega) q21) rfl 1 (by decide) (hA9 _ mfM_13) (fun _ h9 => h9) rfl dM_add_73 ?_
      refine lv_aload_n hx hb dM_add_76 rfl (lv_at hl 0 rfl) ?_
      refine lv_dup hx hb dM_add_77 rfl ?_
      refine va_get (D := D) (ci := 3) (v := .int (nI (rs + 2))) (C := RM) (T := TM) (N := 9) hx hb hA9 inM hown hK hP 34 (wx_at (by omega) q21) rfl 6 (by decide) (hA9 _ mfM_29) (fun _ h9 => h9) rfl dM_add_78 ?_
      refine lv_dup_x1 hx hb dM_add_81 rfl rfl ?_
      refine lv_iconst (v := nI 1) hx hb dM_add_82 (by decide +kernel) ?_
      refine lv_iadd hx hb dM_add_83 ?_
      refine lv_topi (fun z24 ez24 => ?_)
      obtain rfl : z24 = nI (rs + 3) := by rw [ez24]; exact nI_add _ _
      refine va_put (D := D) (ci := 3) (v := .int (nI (rs + 3))) (ty := .int) (C := RM) (T := TM) (N := 9) hx hb hA9 inM tyM tyM_ok nmM hown hK hP hD hS 34 (wx_at (by omega) q21) rfl 6 (by decide) (hA9 _ mfM_29) (fun _ h9 => h9) rfl (by decide +kernel) rfl rfl (Nat.le_of_ble_eq_true rfl) dM_add_84 (fun H locs hP hD hS => ?_)
      replace hP : va_P D CLS ((wx N ad ce6).set 34 (ad 34, .inr (3, [.int (nI 0), .ref (ad 35), .ref (ad 36), .ref (ad 37), .ref (ad 38), .ref (ad 39), .int (nI (rs + 3)), .int (nI bu), .int (nI tl)]))) H := hP
      replace hD : va_D A ((wx N ad ce6).set 34 (ad 34, .inr (3, [.int (nI 0), .ref (ad 35), .ref (ad 36), .ref (ad 37), .ref (ad 38), .ref (ad 39), .int (nI (rs + 3)), .int (nI bu), .int (nI tl)]))) := hD
      obtain ⟨ce7, hce7⟩ : ∃ z9, z9 = va_up ce6 34 (.inr (3, [.int (nI 0), .ref (ad 35), .ref (ad 36), .ref (ad 37), .ref (ad 38), .ref (ad 39), .int (nI (rs + 3)), .int (nI bu), .int (nI tl)])) := ⟨_, rfl⟩
      rw [wx_set (by omega), ← hce7] at hP hD
      have q25 : ce7 35 = .inl (cI, 4000, .inl (upd (upd mrow rs (nI (m9 a1))) (rs + 1) (nI (m9 a2)))) := by rw [hce7, va_up_ne _ _ (by omega)]; exact q22
      have q26 : ce7 34 = .inr (3, [.int (nI 0), .ref (ad 35), .ref (ad 36), .ref (ad 37), .ref (ad 38), .ref (ad 39), .int (nI (rs + 3)), .int (nI bu), .int (nI tl)]) := by rw [hce7, va_up_self]
      have fr27 : ∀ j, j ≠ 34 → j ≠ 35 → ce7 j = ce j := fun j h0 h1 => by rw [hce7, va_up_ne _ _ h0]; exact fr23 j h0 h1
      refine lv_iload_n hx hb dM_add_87 rfl (lv_at hl 3 rfl) ?_
      refine lv_sipush (v := nI 511) hx hb dM_add_88 (by decide +kernel) ?_
      refine lv_iand hx hb dM_add_91 ?_
      refine lv_topi (fun z28 ez28 => ?_)
      obtain rfl : z28 = nI (m9 a3) := by rw [ez28]; exact and511 _
      refine va_iast hx hb hK hP hD hS 35 0 (wx_at (by omega) q25) rfl (inN) dM_add_92 (fun H locs hP hD hS => ?_)
      rw [clN (a := (rs + 2))] at hP hD
      obtain ⟨ce8, hce8⟩ : ∃ z9, z9 = va_up ce7 35 (.inl (cI, 4000, .inl (upd (upd (upd mrow rs (nI (m9 a1))) (rs + 1) (nI (m9 a2))) (rs + 2) (nI (m9 a3))))) := ⟨_, rfl⟩
      rw [wx_set (by omega), ← hce8] at hP hD
      have q29 : ce8 34 = .inr (3, [.int (nI 0), .ref (ad 35), .ref (ad 36), .ref (ad 37), .ref (ad 38), .ref (ad 39), .int (nI (rs + 3)), .int (nI bu), .int (nI tl)]) := by rw [hce8, va_up_ne _ _ (by omega)]; exact q26
      have q30 : ce8 35 = .inl (cI, 4000, .inl (upd (upd (upd mrow rs (nI (m9 a1))) (rs + 1) (nI (m9 a2))) (rs + 2) (nI (m9 a3)))) := by rw [hce8, va_up_self]
      have fr31 : ∀ j, j ≠ 34 → j ≠ 35 → ce8 j = ce j := fun j h0 h1 => by rw [hce8, va_up_ne _ _ h1]; exact fr27 j h0 h1
      refine lv_aload_n hx hb dM_add_93 rfl (lv_at hl 0 rfl) ?_
      refine va_get (D := D) (ci := 3) (v := .int (nI (rs + 3))) (C := RM) (T := TM) (N := 9) hx hb hA9 inM hown hK hP 34 (wx_at (by omega) q29) rfl 6 (by decide) (hA9 _ mfM_29) (fun _ h9 => h9) rfl dM_add_94 ?_
      exact W.iret (v := (nI (rs + 3))) hx hb hr (fun t ht hW => ⟨⟨(nI (rs + 3)), ce8, rfl, ⟨rfl, (fun j g0 g1 => fr31 j g0 g1), q29, q30⟩, by rw [ht]; exact hP, va_K.moved hW.alike hK, hD⟩, hS.F ht⟩) hS.2.2 dM_add_97
    · skip
      exact absurd (show nI (bN false) = 0 from nI_0) c25
  · skip
    exact absurd (nI_le hrs (by omega)) c14

set_option maxHeartbeats 4000000 in
set_option maxRecDepth 100000 in
theorem c_M_cut (l : Launch) (D : va_G) (cI cO cJ : ClassId) (N : Nat) (ad : Nat → Nat) (ce : Nat → va_E) (sz : Nat) (hN : 40 ≤ N) (th : Int32) (rs bu tl : Nat) (h0 : ce 34 = .inr (3, [.int (th), .ref (ad 35), .ref (ad 36), .ref (ad 37), .ref (ad 38), .ref (ad 39), .int (nI rs), .int (nI bu), .int (nI tl)])) (hrs : rs ≤ 4000) (x : Int32) : Met l yM_cut (.code yM_cut bM_cut 2 (some .int) :: WA) ({ frames := 1, cells := 0, slots := 0, locals := 22 }) (PM D (TY cI cO cJ) N ad ce sz [.ref (ad 34), .int (x)]) (va_Qi (fun (r : Int32) (ce1 : Nat → va_E) => (∀ j, j ≠ 34 → ce1 j = ce j) ∧ ((∃ k, k ≤ rs ∧ x = nI k ∧ r = nI k ∧ ce1 34 = .inr (3, [.int (nI 0), .ref (ad 35), .ref (ad 36), .ref (ad 37), .ref (ad 38), .ref (ad 39), .int (nI k), .int (nI bu), .int (nI tl)])) ∨ (¬ (∃ k, k ≤ rs ∧ x = nI k) ∧ r = nI 0 ∧ ce1 34 = .inr (3, [.int (nI 1), .ref (ad 35), .ref (ad 36), .ref (ad 37), .ref (ad 38), .ref (ad 39), .int (nI rs), .int (nI bu), .int (nI tl)])))) (BW D (TY cI cO cJ) N ad (AW N ad sz)) (AW N ad sz)) 0 0 (AW N ad sz) := by
  refine Met.ofW (cc := bM_cut) (maxL := 2) (ret := (some .int)) (by decide) rfl ?_
  intro p e s m args below meth c s₁ B hml hv
  obtain ⟨rfl, hsz, hP, hK, hD0⟩ := hv
  have hx := B.exec
  have hb := B.bytes
  have hr := B.returns
  have hA9 : ∀ w ∈ WA, w.before _ s = true := fun w h => atoms_spec (ws := .code yM_cut bM_cut 2 (some .int) :: WA) B.pre w (List.mem_cons_of_mem _ h)
  have hown : s.vm.findClass RM = some m.cls := findClass_of_methodNamed B.named
  have hlocks := B.notSynchronized
  subst hsz
  have hD := aw_D (sz := s.heap.size) hD0
  generalize hAe : AW N ad s.heap.size = A at hD ⊢
  have hA : ∀ q, s.heap.size ≤ q → A q := fun q h => by rw [← hAe]; exact Or.inr h
  clear hAe hD0
  have hl := lv_entry ([.ref (ad 34), .int (x)]) (n := 2) (Nat.le_of_ble_eq_true rfl)
  rw [lg_entry_eq]
  generalize (lg_sl ([.ref (ad 34), .int (x)]) ++ List.replicate (2 - (lg_sl ([.ref (ad 34), .int (x)])).length) Slot.unset).toArray = ls at hl ⊢
  have hl : lv_has ls 2 [(0, .ref (ad 34)), (1, .int (x))] := hl
  refine st0 (A := A) (fun H locs hS hH => ?_)
  rw [← hH] at hP
  clear hH
  refine lv_aload_n hx hb dM_cut_0 rfl (lv_at hl 0 rfl) ?_
  refine lv_iconst (v := nI 0) hx hb dM_cut_1 (by decide +kernel) ?_
  refine va_put (D := D) (ci := 3) (v := .int (nI 0)) (ty := .int) (C := RM) (T := TM) (N := 9) hx hb hA9 inM tyM tyM_ok nmM hown hK hP hD hS 34 (wx_at (by omega) h0) rfl 0 (by decide) (hA9 _ mfM_7) (fun _ h9 => h9) rfl (by decide +kernel) rfl rfl (Nat.le_of_ble_eq_true rfl) dM_cut_2 (fun H locs hP hD hS => ?_)
  replace hP : va_P D CLS ((wx N ad ce).set 34 (ad 34, .inr (3, [.int (nI 0), .ref (ad 35), .ref (ad 36), .ref (ad 37), .ref (ad 38), .ref (ad 39), .int (nI rs), .int (nI bu), .int (nI tl)]))) H := hP
  replace hD : va_D A ((wx N ad ce).set 34 (ad 34, .inr (3, [.int (nI 0), .ref (ad 35), .ref (ad 36), .ref (ad 37), .ref (ad 38), .ref (ad 39), .int (nI rs), .int (nI bu), .int (nI tl)]))) := hD
  obtain ⟨ce1, hce1⟩ : ∃ z9, z9 = va_up ce 34 (.inr (3, [.int (nI 0), .ref (ad 35), .ref (ad 36), .ref (ad 37), .ref (ad 38), .ref (ad 39), .int (nI rs), .int (nI bu), .int (nI tl)])) := ⟨_, rfl⟩
  rw [wx_set (by omega), ← hce1] at hP hD
  have q1 : ce1 34 = .inr (3, [.int (nI 0), .ref (ad 35), .ref (ad 36), .ref (ad 37), .ref (ad 38), .ref (ad 39), .int (nI rs), .int (nI bu), .int (nI tl)]) := by rw [hce1, va_up_self]
  have fr2 : ∀ j, j ≠ 34 → ce1 j = ce j := fun j h0 => by rw [hce1, va_up_ne _ _ h0]
  refine lv_aload_n hx hb dM_cut_5 rfl (lv_at hl 0 rfl) ?_
  refine lv_iconst (v := nI 1) hx hb dM_cut_6 (by decide +kernel) ?_
  refine lv_iload_n hx hb dM_cut_7 rfl (lv_at hl 1 rfl) ?_
  refine lv_if_lt (tgt := 19) hx hb dM_cut_8 (by decide) (fun c8 => ?_) (fun c8 => ?_)
  · skip
    have no : ¬ ∃ k, k ≤ rs ∧ x = nI k := fun ⟨k, h1, h2⟩ => neg_n c8 h2
    refine lv_iconst (v := nI (bN true)) hx hb dM_cut_19 (by decide +kernel) ?_
    refine lv_goto (tgt := 24) hx hb dM_cut_20 (by decide) ?_
    refine cvi (va_runV (As := [.int (nI 1), .int (nI (bN true))]) (rest := []) ⟨hx, hb, hml, hown, hA9⟩ (c_M_refuse l D cI cO cJ N ad ce1 H.size hN (nI 0) rs bu tl q1 1 true) (cwV 2 hA9 (gV mlM_38 miM_refuse msM_refuse mn_M mkM_refuse) rfl rfl rfl (by decide +kernel) ⟨Nat.le_of_ble_eq_true rfl, Nat.le_of_ble_eq_true rfl⟩) ⟨PM_bl, wx_recv hK hP (by omega) q1 rfl, PM_mk hK hP hD⟩ rfl rfl hl.1 rfl (lv_room (Nat.le_of_ble_eq_true rfl)) dM_cut_24 ⟨Nat.le_of_ble_eq_true rfl, Nat.le_of_ble_eq_true rfl⟩) hS hD hA (fun r3 ce2 H locs hpost hP hD hS => ?_)
    obtain ⟨rfl, rf, rz⟩ := hpost
    have q4 : ce2 34 = .inr (3, [.int (nI 1), .ref (ad 35), .ref (ad 36), .ref (ad 37), .ref (ad 38), .ref (ad 39), .int (nI rs), .int (nI bu), .int (nI tl)]) := rz
    have fr5 : ∀ j, j ≠ 34 → ce2 j = ce j := fun j g0 => (rf j g0).trans (fr2 j g0)
    refine lv_if_eq (tgt := 32) hx hb dM_cut_27 (by decide) (fun c27 => ?_) (fun c27 => ?_)
    · skip
      exact absurd c27 (by decide +kernel)
    · skip
      refine lv_iconst (v := nI 0) hx hb dM_cut_30 (by decide +kernel) ?_
      exact W.iret (v := (nI 0)) hx hb hr (fun t ht hW => ⟨⟨(nI 0), ce2, rfl, ⟨(fun j g0 => fr5 j g0), Or.inr ⟨no, rfl, q4⟩⟩, by rw [ht]; exact hP, va_K.moved hW.alike hK, hD⟩, hS.F ht⟩) hS.2.2 dM_cut_31
  · skip
    refine lv_iload_n hx hb dM_cut_11 rfl (lv_at hl 1 rfl) ?_
    refine lv_aload_n hx hb dM_cut_12 rfl (lv_at hl 0 rfl) ?_
    refine va_get (D := D) (ci := 3) (v := .int (nI rs)) (C := RM) (T := TM) (N := 9) hx hb hA9 inM hown hK hP 34 (wx_at (by omega) q1) rfl 6 (by decide) (hA9 _ mfM_29) (fun _ h9 => h9) rfl dM_cut_13 ?_
    refine lv_icmp_le (tgt := 23) hx hb dM_cut_16 (by decide) (fun c16 => ?_) (fun c16 => ?_)
    · skip
      obtain ⟨k, hk, rfl⟩ := rg_mk c8 c16
      refine lv_iconst (v := nI (bN false)) hx hb dM_cut_23 (by decide +kernel) ?_
      refine cvi (va_runV (As := [.int (nI 1), .int (nI (bN false))]) (rest := []) ⟨hx, hb, hml, hown, hA9⟩ (c_M_refuse l D cI cO cJ N ad ce1 H.size hN (nI 0) rs bu tl q1 1 false) (cwV 2 hA9 (gV mlM_38 miM_refuse msM_refuse mn_M mkM_refuse) rfl rfl rfl (by decide +kernel) ⟨Nat.le_of_ble_eq_true rfl, Nat.le_of_ble_eq_true rfl⟩) ⟨PM_bl, wx_recv hK hP (by omega) q1 rfl, PM_mk hK hP hD⟩ rfl rfl hl.1 rfl (lv_room (Nat.le_of_ble_eq_true rfl)) dM_cut_24 ⟨Nat.le_of_ble_eq_true rfl, Nat.le_of_ble_eq_true rfl⟩) hS hD hA (fun r6 ce2 H locs hpost hP hD hS => ?_)
      obtain ⟨rfl, rf, rz⟩ := hpost
      have q7 : ce2 34 = .inr (3, [.int (nI 0), .ref (ad 35), .ref (ad 36), .ref (ad 37), .ref (ad 38), .ref (ad 39), .int (nI rs), .int (nI bu), .int (nI tl)]) := rz
      have fr8 : ∀ j, j ≠ 34 → ce2 j = ce j := fun j g0 => (rf j g0).trans (fr2 j g0)
      refine lv_if_eq (tgt := 32) hx hb dM_cut_27 (by decide) (fun c27 => ?_) (fun c27 => ?_)
      · skip
        refine lv_aload_n hx hb dM_cut_32 rfl (lv_at hl 0 rfl) ?_
        refine lv_iload_n hx hb dM_cut_33 rfl (lv_at hl 1 rfl) ?_
        refine va_put (D := D) (ci := 3) (v := .int (nI k)) (ty := .int) (C := RM) (T := TM) (N := 9) hx hb hA9 inM tyM tyM_ok nmM hown hK hP hD hS 34 (wx_at (by omega) q7) rfl 6 (by decide) (hA9 _ mfM_29) (fun _ h9 => h9) rfl (by decide +kernel) rfl rfl (Nat.le_of_ble_eq_true rfl) dM_cut_34 (fun H locs hP hD hS => ?_)
        replace hP : va_P D CLS ((wx N ad ce2).set 34 (ad 34, .inr (3, [.int (nI 0), .ref (ad 35), .ref (ad 36), .ref (ad 37), .ref (ad 38), .ref (ad 39), .int (nI k), .int (nI bu), .int (nI tl)]))) H := hP
        replace hD : va_D A ((wx N ad ce2).set 34 (ad 34, .inr (3, [.int (nI 0), .ref (ad 35), .ref (ad 36), .ref (ad 37), .ref (ad 38), .ref (ad 39), .int (nI k), .int (nI bu), .int (nI tl)]))) := hD
        obtain ⟨ce3, hce3⟩ : ∃ z9, z9 = va_up ce2 34 (.inr (3, [.int (nI 0), .ref (ad 35), .ref (ad 36), .ref (ad 37), .ref (ad 38), .ref (ad 39), .int (nI k), .int (nI bu), .int (nI tl)])) := ⟨_, rfl⟩
        rw [wx_set (by omega), ← hce3] at hP hD
        have q9 : ce3 34 = .inr (3, [.int (nI 0), .ref (ad 35), .ref (ad 36), .ref (ad 37), .ref (ad 38), .ref (ad 39), .int (nI k), .int (nI bu), .int (nI tl)]) := by rw [hce3, va_up_self]
        have fr10 : ∀ j, j ≠ 34 → ce3 j = ce j := fun j h0 => by rw [hce3, va_up_ne _ _ h0]; exact fr8 j h0
        refine lv_iload_n hx hb dM_cut_37 rfl (lv_at hl 1 rfl) ?_
        exact W.iret (v := (nI k)) hx hb hr (fun t ht hW => ⟨⟨(nI k), ce3, rfl, ⟨(fun j g0 => fr10 j g0), Or.inl ⟨k, hk, rfl, rfl, q9⟩⟩, by rw [ht]; exact hP, va_K.moved hW.alike hK, hD⟩, hS.F ht⟩) hS.2.2 dM_cut_38
      · skip
        exact absurd (show nI (bN false) = 0 from nI_0) c27
    · skip
      have no : ¬ ∃ k, k ≤ rs ∧ x = nI k := fun ⟨k, h1, h2⟩ => c16 (by rw [h2]; exact nI_le h1 (by omega))
      refine lv_iconst (v := nI (bN true)) hx hb dM_cut_19 (by decide +kernel) ?_
      refine lv_goto (tgt := 24) hx hb dM_cut_20 (by decide) ?_
      refine cvi (va_runV (As := [.int (nI 1), .int (nI (bN true))]) (rest := []) ⟨hx, hb, hml, hown, hA9⟩ (c_M_refuse l D cI cO cJ N ad ce1 H.size hN (nI 0) rs bu tl q1 1 true) (cwV 2 hA9 (gV mlM_38 miM_refuse msM_refuse mn_M mkM_refuse) rfl rfl rfl (by decide +kernel) ⟨Nat.le_of_ble_eq_true rfl, Nat.le_of_ble_eq_true rfl⟩) ⟨PM_bl, wx_recv hK hP (by omega) q1 rfl, PM_mk hK hP hD⟩ rfl rfl hl.1 rfl (lv_room (Nat.le_of_ble_eq_true rfl)) dM_cut_24 ⟨Nat.le_of_ble_eq_true rfl, Nat.le_of_ble_eq_true rfl⟩) hS hD hA (fun r11 ce2 H locs hpost hP hD hS => ?_)
      obtain ⟨rfl, rf, rz⟩ := hpost
      have q12 : ce2 34 = .inr (3, [.int (nI 1), .ref (ad 35), .ref (ad 36), .ref (ad 37), .ref (ad 38), .ref (ad 39), .int (nI rs), .int (nI bu), .int (nI tl)]) := rz
      have fr13 : ∀ j, j ≠ 34 → ce2 j = ce j := fun j g0 => (rf j g0).trans (fr2 j g0)
      refine lv_if_eq (tgt := 32) hx hb dM_cut_27 (by decide) (fun c27 => ?_) (fun c27 => ?_)
      · skip
        exact absurd c27 (by decide +kernel)
      · skip
        refine lv_iconst (v := nI 0) hx hb dM_cut_30 (by decide +kernel) ?_
        exact W.iret (v := (nI 0)) hx hb hr (fun t ht hW => ⟨⟨(nI 0), ce2, rfl, ⟨(fun j g0 => fr13 j g0), Or.inr ⟨no, rfl, q12⟩⟩, by rw [ht]; exact hP, va_K.moved hW.alike hK, hD⟩, hS.F ht⟩) hS.2.2 dM_cut_31

set_option maxHeartbeats 4000000 in
set_option maxRecDepth 100000 in
theorem c_M_build (l : Launch) (D : va_G) (cI cO cJ : ClassId) (N : Nat) (ad : Nat → Nat) (ce : Nat → va_E) (sz : Nat) (hN : 40 ≤ N) (th : Int32) (rs bu tl : Nat) (h0 : ce 34 = .inr (3, [.int (th), .ref (ad 35), .ref (ad 36), .ref (ad 37), .ref (ad 38), .ref (ad 39), .int (nI rs), .int (nI bu), .int (nI tl)])) (mrow : Nat → Int32) (h1 : ce 35 = .inl (cI, 4000, .inl mrow)) (mt : Nat → Int32) (h2 : ce 36 = .inl (cI, 4000, .inl mt)) (hrs : rs ≤ 4000) : Met l yM_build (.code yM_build bM_build 2 (some .int) :: WA) ({ frames := 0, cells := 0, slots := 0, locals := 0 }) (PM D (TY cI cO cJ) N ad ce sz [.ref (ad 34)]) (va_Qi (fun (r : Int32) (ce1 : Nat → va_E) => r = nI rs ∧ (∀ j, j ≠ 34 → j ≠ 36 → ce1 j = ce j) ∧ ce1 34 = .inr (3, [.int (nI 0), .ref (ad 35), .ref (ad 36), .ref (ad 37), .ref (ad 38), .ref (ad 39), .int (nI rs), .int (nI rs), .int (nI tl)]) ∧ ∃ g1 : Nat → Int32, ce1 36 = .inl (cI, 4000, .inl g1) ∧ ∀ j, j < rs → g1 j = mrow j) (BW D (TY cI cO cJ) N ad (AW N ad sz)) (AW N ad sz)) 0 0 (AW N ad sz) := by
  refine Met.ofW (cc := bM_build) (maxL := 2) (ret := (some .int)) (by decide) rfl ?_
  intro p e s m args below meth c s₁ B hml hv
  obtain ⟨rfl, hsz, hP, hK, hD0⟩ := hv
  have hx := B.exec
  have hb := B.bytes
  have hr := B.returns
  have hA9 : ∀ w ∈ WA, w.before _ s = true := fun w h => atoms_spec (ws := .code yM_build bM_build 2 (some .int) :: WA) B.pre w (List.mem_cons_of_mem _ h)
  have hown : s.vm.findClass RM = some m.cls := findClass_of_methodNamed B.named
  have hlocks := B.notSynchronized
  subst hsz
  have hD := aw_D (sz := s.heap.size) hD0
  generalize hAe : AW N ad s.heap.size = A at hD ⊢
  have hA : ∀ q, s.heap.size ≤ q → A q := fun q h => by rw [← hAe]; exact Or.inr h
  clear hAe hD0
  have hl := lv_entry ([.ref (ad 34)]) (n := 2) (Nat.le_of_ble_eq_true rfl)
  rw [lg_entry_eq]
  generalize (lg_sl ([.ref (ad 34)]) ++ List.replicate (2 - (lg_sl ([.ref (ad 34)])).length) Slot.unset).toArray = ls at hl ⊢
  have hl : lv_has ls 2 [(0, .ref (ad 34))] := hl
  refine st0 (A := A) (fun H locs hS hH => ?_)
  rw [← hH] at hP
  clear hH
  refine lv_aload_n hx hb dM_build_0 rfl (lv_at hl 0 rfl) ?_
  refine lv_iconst (v := nI 0) hx hb dM_build_1 (by decide +kernel) ?_
  refine va_put (D := D) (ci := 3) (v := .int (nI 0)) (ty := .int) (C := RM) (T := TM) (N := 9) hx hb hA9 inM tyM tyM_ok nmM hown hK hP hD hS 34 (wx_at (by omega) h0) rfl 0 (by decide) (hA9 _ mfM_7) (fun _ h9 => h9) rfl (by decide +kernel) rfl rfl (Nat.le_of_ble_eq_true rfl) dM_build_2 (fun H locs hP hD hS => ?_)
  replace hP : va_P D CLS ((wx N ad ce).set 34 (ad 34, .inr (3, [.int (nI 0), .ref (ad 35), .ref (ad 36), .ref (ad 37), .ref (ad 38), .ref (ad 39), .int (nI rs), .int (nI bu), .int (nI tl)]))) H := hP
  replace hD : va_D A ((wx N ad ce).set 34 (ad 34, .inr (3, [.int (nI 0), .ref (ad 35), .ref (ad 36), .ref (ad 37), .ref (ad 38), .ref (ad 39), .int (nI rs), .int (nI bu), .int (nI tl)]))) := hD
  obtain ⟨ce1, hce1⟩ : ∃ z9, z9 = va_up ce 34 (.inr (3, [.int (nI 0), .ref (ad 35), .ref (ad 36), .ref (ad 37), .ref (ad 38), .ref (ad 39), .int (nI rs), .int (nI bu), .int (nI tl)])) := ⟨_, rfl⟩
  rw [wx_set (by omega), ← hce1] at hP hD
  have q1 : ce1 35 = .inl (cI, 4000, .inl mrow) := by rw [hce1, va_up_ne _ _ (by omega)]; exact h1
  have q2 : ce1 36 = .inl (cI, 4000, .inl mt) := by rw [hce1, va_up_ne _ _ (by omega)]; exact h2
  have q3 : ce1 34 = .inr (3, [.int (nI 0), .ref (ad 35), .ref (ad 36), .ref (ad 37), .ref (ad 38), .ref (ad 39), .int (nI rs), .int (nI bu), .int (nI tl)]) := by rw [hce1, va_up_self]
  have fr4 : ∀ j, j ≠ 34 → ce1 j = ce j := fun j h0 => by rw [hce1, va_up_ne _ _ h0]
  refine lv_iconst (v := nI 0) hx hb dM_build_5 (by decide +kernel) ?_
  refine lv_istore_n (lv' := [(1, .int (nI 0)), (0, .ref (ad 34))]) hx hb dM_build_6 rfl hl (by decide) rfl (fun ls hl => ?_)
  obtain ⟨cl, hcl0⟩ : ∃ z : Nat → va_E, ce1 = z := ⟨_, rfl⟩
  obtain ⟨i, hi0⟩ : ∃ z : Nat, (0) = z := ⟨_, rfl⟩
  obtain ⟨g1, hg10⟩ : ∃ z : Nat → Int32, (mt) = z := ⟨_, rfl⟩
  replace hl : lv_has ls 2 [(1, .int (nI i)), (0, .ref (ad 34))] := by subst hi0 hg10; exact lv_sub hl [0, 1] rfl
  have J : (∀ j, j ≠ 34 → j ≠ 36 → cl j = ce j) ∧ cl 34 = .inr (3, [.int (nI 0), .ref (ad 35), .ref (ad 36), .ref (ad 37), .ref (ad 38), .ref (ad 39), .int (nI rs), .int (nI bu), .int (nI tl)]) ∧ cl 36 = .inl (cI, 4000, .inl g1) ∧ i ≤ rs ∧ ∀ j, j < i → g1 j = mrow j := by
    subst hcl0 hi0 hg10
    exact ⟨(fun j g0 g1 => fr4 j g0), q3, q2, ⟨by omega, fun j h => absurd h (by omega)⟩⟩
  rw [hcl0] at hP hD
  clear hcl0 hi0 hg10
  obtain ⟨k9, hk9⟩ : ∃ z9 : Nat, z9 = rs - i := ⟨_, rfl⟩
  induction k9 using Nat.strongRecOn generalizing i g1 cl H locs ls with
  | ind k9 ih =>
    obtain ⟨fr7, q5, q6, JJ⟩ := J
    obtain ⟨j1, j2⟩ := JJ
    refine lv_iload_n hx hb dM_build_7 rfl (lv_at hl 0 rfl) ?_
    refine lv_aload_n hx hb dM_build_8 rfl (lv_at hl 1 rfl) ?_
    refine va_get (D := D) (ci := 3) (v := .int (nI rs)) (C := RM) (T := TM) (N := 9) hx hb hA9 inM hown hK hP 34 (wx_at (by omega) q5) rfl 6 (by decide) (hA9 _ mfM_29) (fun _ h9 => h9) rfl dM_build_9 ?_
    refine lv_icmp_ge (tgt := 33) hx hb dM_build_12 (by decide) (fun c12 => ?_) (fun c12 => ?_)
    · skip
      have d1 := leN c12
      refine lv_aload_n hx hb dM_build_33 rfl (lv_at hl 1 rfl) ?_
      refine lv_aload_n hx hb dM_build_34 rfl (lv_at hl 1 rfl) ?_
      refine va_get (D := D) (ci := 3) (v := .int (nI rs)) (C := RM) (T := TM) (N := 9) hx hb hA9 inM hown hK hP 34 (wx_at (by omega) q5) rfl 6 (by decide) (hA9 _ mfM_29) (fun _ h9 => h9) rfl dM_build_35 ?_
      refine va_put (D := D) (ci := 3) (v := .int (nI rs)) (ty := .int) (C := RM) (T := TM) (N := 9) hx hb hA9 inM tyM tyM_ok nmM hown hK hP hD hS 34 (wx_at (by omega) q5) rfl 7 (by decide) (hA9 _ mfM_32) (fun _ h9 => h9) rfl (by decide +kernel) rfl rfl (Nat.le_of_ble_eq_true rfl) dM_build_38 (fun H locs hP hD hS => ?_)
      replace hP : va_P D CLS ((wx N ad cl).set 34 (ad 34, .inr (3, [.int (nI 0), .ref (ad 35), .ref (ad 36), .ref (ad 37), .ref (ad 38), .ref (ad 39), .int (nI rs), .int (nI rs), .int (nI tl)]))) H := hP
      replace hD : va_D A ((wx N ad cl).set 34 (ad 34, .inr (3, [.int (nI 0), .ref (ad 35), .ref (ad 36), .ref (ad 37), .ref (ad 38), .ref (ad 39), .int (nI rs), .int (nI rs), .int (nI tl)]))) := hD
      obtain ⟨ce2, hce2⟩ : ∃ z9, z9 = va_up cl 34 (.inr (3, [.int (nI 0), .ref (ad 35), .ref (ad 36), .ref (ad 37), .ref (ad 38), .ref (ad 39), .int (nI rs), .int (nI rs), .int (nI tl)])) := ⟨_, rfl⟩
      rw [wx_set (by omega), ← hce2] at hP hD
      have q8 : ce2 35 = .inl (cI, 4000, .inl mrow) := by rw [hce2, va_up_ne _ _ (by omega)]; exact ((fr7 35 (by omega) (by omega)).trans h1)
      have q9 : ce2 36 = .inl (cI, 4000, .inl g1) := by rw [hce2, va_up_ne _ _ (by omega)]; exact q6
      have q10 : ce2 34 = .inr (3, [.int (nI 0), .ref (ad 35), .ref (ad 36), .ref (ad 37), .ref (ad 38), .ref (ad 39), .int (nI rs), .int (nI rs), .int (nI tl)]) := by rw [hce2, va_up_self]
      have fr11 : ∀ j, j ≠ 34 → j ≠ 36 → ce2 j = ce j := fun j h0 h1 => by rw [hce2, va_up_ne _ _ h0]; exact fr7 j h0 h1
      refine lv_aload_n hx hb dM_build_41 rfl (lv_at hl 1 rfl) ?_
      refine va_get (D := D) (ci := 3) (v := .int (nI rs)) (C := RM) (T := TM) (N := 9) hx hb hA9 inM hown hK hP 34 (wx_at (by omega) q10) rfl 7 (by decide) (hA9 _ mfM_32) (fun _ h9 => h9) rfl dM_build_42 ?_
      exact W.iret (v := (nI rs)) hx hb hr (fun t ht hW => ⟨⟨(nI rs), ce2, rfl, ⟨rfl, (fun j g0 g1 => fr11 j g0 g1), q10, g1, q9, fun j hj => j2 j (by omega)⟩, by rw [ht]; exact hP, va_K.moved hW.alike hK, hD⟩, hS.F ht⟩) hS.2.2 dM_build_45
    · skip
      have d1 := nleN c12
      refine lv_aload_n hx hb dM_build_15 rfl (lv_at hl 1 rfl) ?_
      refine va_get (D := D) (ci := 3) (v := .ref (ad 36)) (C := RM) (T := TM) (N := 9) hx hb hA9 inM hown hK hP 34 (wx_at (by omega) q5) rfl 2 (by decide) (hA9 _ mfM_17) (fun _ h9 => h9) rfl dM_build_16 ?_
      refine lv_iload_n hx hb dM_build_19 rfl (lv_at hl 0 rfl) ?_
      refine lv_aload_n hx hb dM_build_20 rfl (lv_at hl 1 rfl) ?_
      refine va_get (D := D) (ci := 3) (v := .ref (ad 35)) (C := RM) (T := TM) (N := 9) hx hb hA9 inM hown hK hP 34 (wx_at (by omega) q5) rfl 1 (by decide) (hA9 _ mfM_13) (fun _ h9 => h9) rfl dM_build_21 ?_
      refine lv_iload_n hx hb dM_build_24 rfl (lv_at hl 0 rfl) ?_
      refine va_iald hx hb hK hP 35 0 (wx_at (by omega) ((fr7 35 (by omega) (by omega)).trans h1)) rfl (inN) dM_build_25 ?_
      refine lv_topi (fun z12 ez12 => ?_)
      obtain rfl : z12 = mrow i := by rw [ez12, clN]
      refine va_iast hx hb hK hP hD hS 36 0 (wx_at (by omega) q6) rfl (inN) dM_build_26 (fun H locs hP hD hS => ?_)
      rw [clN (a := i)] at hP hD
      obtain ⟨ce2, hce2⟩ : ∃ z9, z9 = va_up cl 36 (.inl (cI, 4000, .inl (upd g1 i (mrow i)))) := ⟨_, rfl⟩
      rw [wx_set (by omega), ← hce2] at hP hD
      have q13 : ce2 34 = .inr (3, [.int (nI 0), .ref (ad 35), .ref (ad 36), .ref (ad 37), .ref (ad 38), .ref (ad 39), .int (nI rs), .int (nI bu), .int (nI tl)]) := by rw [hce2, va_up_ne _ _ (by omega)]; exact q5
      have q14 : ce2 35 = .inl (cI, 4000, .inl mrow) := by rw [hce2, va_up_ne _ _ (by omega)]; exact ((fr7 35 (by omega) (by omega)).trans h1)
      have q15 : ce2 36 = .inl (cI, 4000, .inl (upd g1 i (mrow i))) := by rw [hce2, va_up_self]
      have fr16 : ∀ j, j ≠ 34 → j ≠ 36 → ce2 j = ce j := fun j h0 h1 => by rw [hce2, va_up_ne _ _ h1]; exact fr7 j h0 h1
      refine lv_iinc (v := nI (i + 1)) (lv' := [(1, .int (nI (i + 1))), (0, .ref (ad 34))]) hx hb dM_build_27 hl (k := 0) rfl (nI_1 i) (by decide) rfl (fun ls hl => ?_)
      refine lv_goto (tgt := 7) hx hb dM_build_30 (by decide) ?_
      exact ih _ (by omega) (ls := ls) (cl := ce2) (H := H) (locs := locs) (i := i + 1) (g1 := upd g1 i (mrow i)) (hP := hP) (hD := hD) (hS := hS) (hl := lv_sub hl [0, 1] rfl) (J := ⟨(fun j g0 g1 => fr16 j g0 g1), q13, q15, ⟨by omega, fun j hj => if h9 : j = i then (by rw [h9]; exact pk_us) else (by rw [pk_un h9]; exact j2 j (by omega))⟩⟩) (hk9 := rfl)

set_option maxHeartbeats 4000000 in
set_option maxRecDepth 100000 in
theorem c_M_at (l : Launch) (D : va_G) (cI cO cJ : ClassId) (N : Nat) (ad : Nat → Nat) (ce : Nat → va_E) (sz : Nat) (hN : 40 ≤ N) (th : Int32) (rs bu tl : Nat) (h0 : ce 34 = .inr (3, [.int (th), .ref (ad 35), .ref (ad 36), .ref (ad 37), .ref (ad 38), .ref (ad 39), .int (nI rs), .int (nI bu), .int (nI tl)])) (mt : Nat → Int32) (h2 : ce 36 = .inl (cI, 4000, .inl mt)) (hbu : bu ≤ 4000) (x : Int32) : Met l yM_at (.code yM_at bM_at 2 (some .int) :: WA) ({ frames := 1, cells := 0, slots := 0, locals := 22 }) (PM D (TY cI cO cJ) N ad ce sz [.ref (ad 34), .int (x)]) (va_Qi (fun (r : Int32) (ce1 : Nat → va_E) => (∀ j, j ≠ 34 → ce1 j = ce j) ∧ ((∃ k, k < bu ∧ x = nI k ∧ r = mt k ∧ ce1 34 = .inr (3, [.int (nI 0), .ref (ad 35), .ref (ad 36), .ref (ad 37), .ref (ad 38), .ref (ad 39), .int (nI rs), .int (nI bu), .int (nI tl)])) ∨ (¬ (∃ k, k < bu ∧ x = nI k) ∧ r = nI 0 ∧ ce1 34 = .inr (3, [.int (nI 1), .ref (ad 35), .ref (ad 36), .ref (ad 37), .ref (ad 38), .ref (ad 39), .int (nI rs), .int (nI bu), .int (nI tl)])))) (BW D (TY cI cO cJ) N ad (AW N ad sz)) (AW N ad sz)) 0 0 (AW N ad sz) := by
  refine Met.ofW (cc := bM_at) (maxL := 2) (ret := (some .int)) (by decide) rfl ?_
  intro p e s m args below meth c s₁ B hml hv
  obtain ⟨rfl, hsz, hP, hK, hD0⟩ := hv
  have hx := B.exec
  have hb := B.bytes
  have hr := B.returns
  have hA9 : ∀ w ∈ WA, w.before _ s = true := fun w h => atoms_spec (ws := .code yM_at bM_at 2 (some .int) :: WA) B.pre w (List.mem_cons_of_mem _ h)
  have hown : s.vm.findClass RM = some m.cls := findClass_of_methodNamed B.named
  have hlocks := B.notSynchronized
  subst hsz
  have hD := aw_D (sz := s.heap.size) hD0
  generalize hAe : AW N ad s.heap.size = A at hD ⊢
  have hA : ∀ q, s.heap.size ≤ q → A q := fun q h => by rw [← hAe]; exact Or.inr h
  clear hAe hD0
  have hl := lv_entry ([.ref (ad 34), .int (x)]) (n := 2) (Nat.le_of_ble_eq_true rfl)
  rw [lg_entry_eq]
  generalize (lg_sl ([.ref (ad 34), .int (x)]) ++ List.replicate (2 - (lg_sl ([.ref (ad 34), .int (x)])).length) Slot.unset).toArray = ls at hl ⊢
  have hl : lv_has ls 2 [(0, .ref (ad 34)), (1, .int (x))] := hl
  refine st0 (A := A) (fun H locs hS hH => ?_)
  rw [← hH] at hP
  clear hH
  refine lv_aload_n hx hb dM_at_0 rfl (lv_at hl 0 rfl) ?_
  refine lv_iconst (v := nI 0) hx hb dM_at_1 (by decide +kernel) ?_
  refine va_put (D := D) (ci := 3) (v := .int (nI 0)) (ty := .int) (C := RM) (T := TM) (N := 9) hx hb hA9 inM tyM tyM_ok nmM hown hK hP hD hS 34 (wx_at (by omega) h0) rfl 0 (by decide) (hA9 _ mfM_7) (fun _ h9 => h9) rfl (by decide +kernel) rfl rfl (Nat.le_of_ble_eq_true rfl) dM_at_2 (fun H locs hP hD hS => ?_)
  replace hP : va_P D CLS ((wx N ad ce).set 34 (ad 34, .inr (3, [.int (nI 0), .ref (ad 35), .ref (ad 36), .ref (ad 37), .ref (ad 38), .ref (ad 39), .int (nI rs), .int (nI bu), .int (nI tl)]))) H := hP
  replace hD : va_D A ((wx N ad ce).set 34 (ad 34, .inr (3, [.int (nI 0), .ref (ad 35), .ref (ad 36), .ref (ad 37), .ref (ad 38), .ref (ad 39), .int (nI rs), .int (nI bu), .int (nI tl)]))) := hD
  obtain ⟨ce1, hce1⟩ : ∃ z9, z9 = va_up ce 34 (.inr (3, [.int (nI 0), .ref (ad 35), .ref (ad 36), .ref (ad 37), .ref (ad 38), .ref (ad 39), .int (nI rs), .int (nI bu), .int (nI tl)])) := ⟨_, rfl⟩
  rw [wx_set (by omega), ← hce1] at hP hD
  have q1 : ce1 36 = .inl (cI, 4000, .inl mt) := by rw [hce1, va_up_ne _ _ (by omega)]; exact h2
  have q2 : ce1 34 = .inr (3, [.int (nI 0), .ref (ad 35), .ref (ad 36), .ref (ad 37), .ref (ad 38), .ref (ad 39), .int (nI rs), .int (nI bu), .int (nI tl)]) := by rw [hce1, va_up_self]
  have fr3 : ∀ j, j ≠ 34 → ce1 j = ce j := fun j h0 => by rw [hce1, va_up_ne _ _ h0]
  refine lv_aload_n hx hb dM_at_5 rfl (lv_at hl 0 rfl) ?_
  refine lv_iconst (v := nI 1) hx hb dM_at_6 (by decide +kernel) ?_
  refine lv_iload_n hx hb dM_at_7 rfl (lv_at hl 1 rfl) ?_
  refine lv_if_lt (tgt := 19) hx hb dM_at_8 (by decide) (fun c8 => ?_) (fun c8 => ?_)
  · skip
    have no : ¬ ∃ k, k < bu ∧ x = nI k := fun ⟨k, h1, h2⟩ => neg_n c8 h2
    refine lv_iconst (v := nI (bN true)) hx hb dM_at_19 (by decide +kernel) ?_
    refine lv_goto (tgt := 24) hx hb dM_at_20 (by decide) ?_
    refine cvi (va_runV (As := [.int (nI 1), .int (nI (bN true))]) (rest := []) ⟨hx, hb, hml, hown, hA9⟩ (c_M_refuse l D cI cO cJ N ad ce1 H.size hN (nI 0) rs bu tl q2 1 true) (cwV 2 hA9 (gV mlM_38 miM_refuse msM_refuse mn_M mkM_refuse) rfl rfl rfl (by decide +kernel) ⟨Nat.le_of_ble_eq_true rfl, Nat.le_of_ble_eq_true rfl⟩) ⟨PM_bl, wx_recv hK hP (by omega) q2 rfl, PM_mk hK hP hD⟩ rfl rfl hl.1 rfl (lv_room (Nat.le_of_ble_eq_true rfl)) dM_at_24 ⟨Nat.le_of_ble_eq_true rfl, Nat.le_of_ble_eq_true rfl⟩) hS hD hA (fun r4 ce2 H locs hpost hP hD hS => ?_)
    obtain ⟨rfl, rf, rz⟩ := hpost
    have q5 : ce2 34 = .inr (3, [.int (nI 1), .ref (ad 35), .ref (ad 36), .ref (ad 37), .ref (ad 38), .ref (ad 39), .int (nI rs), .int (nI bu), .int (nI tl)]) := rz
    have q6 : ce2 36 = .inl (cI, 4000, .inl mt) := (rf 36 (by omega)).trans q1
    have fr7 : ∀ j, j ≠ 34 → ce2 j = ce j := fun j g0 => (rf j g0).trans (fr3 j g0)
    refine lv_if_eq (tgt := 32) hx hb dM_at_27 (by decide) (fun c27 => ?_) (fun c27 => ?_)
    · skip
      exact absurd c27 (by decide +kernel)
    · skip
      refine lv_iconst (v := nI 0) hx hb dM_at_30 (by decide +kernel) ?_
      exact W.iret (v := (nI 0)) hx hb hr (fun t ht hW => ⟨⟨(nI 0), ce2, rfl, ⟨(fun j g0 => fr7 j g0), Or.inr ⟨no, rfl, q5⟩⟩, by rw [ht]; exact hP, va_K.moved hW.alike hK, hD⟩, hS.F ht⟩) hS.2.2 dM_at_31
  · skip
    refine lv_iload_n hx hb dM_at_11 rfl (lv_at hl 1 rfl) ?_
    refine lv_aload_n hx hb dM_at_12 rfl (lv_at hl 0 rfl) ?_
    refine va_get (D := D) (ci := 3) (v := .int (nI bu)) (C := RM) (T := TM) (N := 9) hx hb hA9 inM hown hK hP 34 (wx_at (by omega) q2) rfl 7 (by decide) (hA9 _ mfM_32) (fun _ h9 => h9) rfl dM_at_13 ?_
    refine lv_icmp_lt (tgt := 23) hx hb dM_at_16 (by decide) (fun c16 => ?_) (fun c16 => ?_)
    · skip
      obtain ⟨k, hk, rfl⟩ := rl_mk c8 c16
      refine lv_iconst (v := nI (bN false)) hx hb dM_at_23 (by decide +kernel) ?_
      refine cvi (va_runV (As := [.int (nI 1), .int (nI (bN false))]) (rest := []) ⟨hx, hb, hml, hown, hA9⟩ (c_M_refuse l D cI cO cJ N ad ce1 H.size hN (nI 0) rs bu tl q2 1 false) (cwV 2 hA9 (gV mlM_38 miM_refuse msM_refuse mn_M mkM_refuse) rfl rfl rfl (by decide +kernel) ⟨Nat.le_of_ble_eq_true rfl, Nat.le_of_ble_eq_true rfl⟩) ⟨PM_bl, wx_recv hK hP (by omega) q2 rfl, PM_mk hK hP hD⟩ rfl rfl hl.1 rfl (lv_room (Nat.le_of_ble_eq_true rfl)) dM_at_24 ⟨Nat.le_of_ble_eq_true rfl, Nat.le_of_ble_eq_true rfl⟩) hS hD hA (fun r8 ce2 H locs hpost hP hD hS => ?_)
      obtain ⟨rfl, rf, rz⟩ := hpost
      have q9 : ce2 34 = .inr (3, [.int (nI 0), .ref (ad 35), .ref (ad 36), .ref (ad 37), .ref (ad 38), .ref (ad 39), .int (nI rs), .int (nI bu), .int (nI tl)]) := rz
      have q10 : ce2 36 = .inl (cI, 4000, .inl mt) := (rf 36 (by omega)).trans q1
      have fr11 : ∀ j, j ≠ 34 → ce2 j = ce j := fun j g0 => (rf j g0).trans (fr3 j g0)
      refine lv_if_eq (tgt := 32) hx hb dM_at_27 (by decide) (fun c27 => ?_) (fun c27 => ?_)
      · skip
        refine lv_aload_n hx hb dM_at_32 rfl (lv_at hl 0 rfl) ?_
        refine va_get (D := D) (ci := 3) (v := .ref (ad 36)) (C := RM) (T := TM) (N := 9) hx hb hA9 inM hown hK hP 34 (wx_at (by omega) q9) rfl 2 (by decide) (hA9 _ mfM_17) (fun _ h9 => h9) rfl dM_at_33 ?_
        refine lv_iload_n hx hb dM_at_36 rfl (lv_at hl 1 rfl) ?_
        refine va_iald hx hb hK hP 36 0 (wx_at (by omega) q10) rfl (inN) dM_at_37 ?_
        refine lv_topi (fun z12 ez12 => ?_)
        obtain rfl : z12 = mt k := by rw [ez12, clN]
        exact W.iret (v := (mt k)) hx hb hr (fun t ht hW => ⟨⟨(mt k), ce2, rfl, ⟨(fun j g0 => fr11 j g0), Or.inl ⟨k, hk, rfl, rfl, q9⟩⟩, by rw [ht]; exact hP, va_K.moved hW.alike hK, hD⟩, hS.F ht⟩) hS.2.2 dM_at_38
      · skip
        exact absurd (show nI (bN false) = 0 from nI_0) c27
    · skip
      have no : ¬ ∃ k, k < bu ∧ x = nI k := fun ⟨k, h1, h2⟩ => c16 (by rw [h2]; exact nI_lt h1 (by omega))
      refine lv_iconst (v := nI (bN true)) hx hb dM_at_19 (by decide +kernel) ?_
      refine lv_goto (tgt := 24) hx hb dM_at_20 (by decide) ?_
      refine cvi (va_runV (As := [.int (nI 1), .int (nI (bN true))]) (rest := []) ⟨hx, hb, hml, hown, hA9⟩ (c_M_refuse l D cI cO cJ N ad ce1 H.size hN (nI 0) rs bu tl q2 1 true) (cwV 2 hA9 (gV mlM_38 miM_refuse msM_refuse mn_M mkM_refuse) rfl rfl rfl (by decide +kernel) ⟨Nat.le_of_ble_eq_true rfl, Nat.le_of_ble_eq_true rfl⟩) ⟨PM_bl, wx_recv hK hP (by omega) q2 rfl, PM_mk hK hP hD⟩ rfl rfl hl.1 rfl (lv_room (Nat.le_of_ble_eq_true rfl)) dM_at_24 ⟨Nat.le_of_ble_eq_true rfl, Nat.le_of_ble_eq_true rfl⟩) hS hD hA (fun r13 ce2 H locs hpost hP hD hS => ?_)
      obtain ⟨rfl, rf, rz⟩ := hpost
      have q14 : ce2 34 = .inr (3, [.int (nI 1), .ref (ad 35), .ref (ad 36), .ref (ad 37), .ref (ad 38), .ref (ad 39), .int (nI rs), .int (nI bu), .int (nI tl)]) := rz
      have q15 : ce2 36 = .inl (cI, 4000, .inl mt) := (rf 36 (by omega)).trans q1
      have fr16 : ∀ j, j ≠ 34 → ce2 j = ce j := fun j g0 => (rf j g0).trans (fr3 j g0)
      refine lv_if_eq (tgt := 32) hx hb dM_at_27 (by decide) (fun c27 => ?_) (fun c27 => ?_)
      · skip
        exact absurd c27 (by decide +kernel)
      · skip
        refine lv_iconst (v := nI 0) hx hb dM_at_30 (by decide +kernel) ?_
        exact W.iret (v := (nI 0)) hx hb hr (fun t ht hW => ⟨⟨(nI 0), ce2, rfl, ⟨(fun j g0 => fr16 j g0), Or.inr ⟨no, rfl, q14⟩⟩, by rw [ht]; exact hP, va_K.moved hW.alike hK, hD⟩, hS.F ht⟩) hS.2.2 dM_at_31

set_option maxHeartbeats 4000000 in
set_option maxRecDepth 100000 in
theorem c_M_number (l : Launch) (D : va_G) (cI cO cJ : ClassId) (N : Nat) (ad : Nat → Nat) (ce : Nat → va_E) (sz : Nat) (hN : 40 ≤ N) (th : Int32) (rs bu tl : Nat) (h0 : ce 34 = .inr (3, [.int (th), .ref (ad 35), .ref (ad 36), .ref (ad 37), .ref (ad 38), .ref (ad 39), .int (nI rs), .int (nI bu), .int (nI tl)])) (ga gb : Nat → Int32) (h3 : ce 38 = .inl (cI, 512, .inl ga)) (h4 : ce 39 = .inl (cI, 512, .inl gb)) (htl : tl ≤ 512) (wv tv : Nat → Nat) (hw : ∀ i, i < tl → ga i = nI (wv i) ∧ gb i = nI (tv i)) (x : Int32) : Met l yM_number (.code yM_number bM_number 2 (some .int) :: WA) ({ frames := 1, cells := 0, slots := 0, locals := 22 }) (PM D (TY cI cO cJ) N ad ce sz [.ref (ad 34), .int (x)]) (va_Qi (fun (r : Int32) (ce1 : Nat → va_E) => (∀ j, j ≠ 34 → ce1 j = ce j) ∧ ((∃ k, k < tl ∧ x = nI k ∧ r = nI (wv k * 4096 + tv k) ∧ ce1 34 = .inr (3, [.int (nI 0), .ref (ad 35), .ref (ad 36), .ref (ad 37), .ref (ad 38), .ref (ad 39), .int (nI rs), .int (nI bu), .int (nI tl)])) ∨ (¬ (∃ k, k < tl ∧ x = nI k) ∧ r = nI 0 ∧ ce1 34 = .inr (3, [.int (nI 1), .ref (ad 35), .ref (ad 36), .ref (ad 37), .ref (ad 38), .ref (ad 39), .int (nI rs), .int (nI bu), .int (nI tl)])))) (BW D (TY cI cO cJ) N ad (AW N ad sz)) (AW N ad sz)) 0 0 (AW N ad sz) := by
  refine Met.ofW (cc := bM_number) (maxL := 2) (ret := (some .int)) (by decide) rfl ?_
  intro p e s m args below meth c s₁ B hml hv
  obtain ⟨rfl, hsz, hP, hK, hD0⟩ := hv
  have hx := B.exec
  have hb := B.bytes
  have hr := B.returns
  have hA9 : ∀ w ∈ WA, w.before _ s = true := fun w h => atoms_spec (ws := .code yM_number bM_number 2 (some .int) :: WA) B.pre w (List.mem_cons_of_mem _ h)
  have hown : s.vm.findClass RM = some m.cls := findClass_of_methodNamed B.named
  have hlocks := B.notSynchronized
  subst hsz
  have hD := aw_D (sz := s.heap.size) hD0
  generalize hAe : AW N ad s.heap.size = A at hD ⊢
  have hA : ∀ q, s.heap.size ≤ q → A q := fun q h => by rw [← hAe]; exact Or.inr h
  clear hAe hD0
  have hl := lv_entry ([.ref (ad 34), .int (x)]) (n := 2) (Nat.le_of_ble_eq_true rfl)
  rw [lg_entry_eq]
  generalize (lg_sl ([.ref (ad 34), .int (x)]) ++ List.replicate (2 - (lg_sl ([.ref (ad 34), .int (x)])).length) Slot.unset).toArray = ls at hl ⊢
  have hl : lv_has ls 2 [(0, .ref (ad 34)), (1, .int (x))] := hl
  refine st0 (A := A) (fun H locs hS hH => ?_)
  rw [← hH] at hP
  clear hH
  refine lv_aload_n hx hb dM_number_0 rfl (lv_at hl 0 rfl) ?_
  refine lv_iconst (v := nI 0) hx hb dM_number_1 (by decide +kernel) ?_
  refine va_put (D := D) (ci := 3) (v := .int (nI 0)) (ty := .int) (C := RM) (T := TM) (N := 9) hx hb hA9 inM tyM tyM_ok nmM hown hK hP hD hS 34 (wx_at (by omega) h0) rfl 0 (by decide) (hA9 _ mfM_7) (fun _ h9 => h9) rfl (by decide +kernel) rfl rfl (Nat.le_of_ble_eq_true rfl) dM_number_2 (fun H locs hP hD hS => ?_)
  replace hP : va_P D CLS ((wx N ad ce).set 34 (ad 34, .inr (3, [.int (nI 0), .ref (ad 35), .ref (ad 36), .ref (ad 37), .ref (ad 38), .ref (ad 39), .int (nI rs), .int (nI bu), .int (nI tl)]))) H := hP
  replace hD : va_D A ((wx N ad ce).set 34 (ad 34, .inr (3, [.int (nI 0), .ref (ad 35), .ref (ad 36), .ref (ad 37), .ref (ad 38), .ref (ad 39), .int (nI rs), .int (nI bu), .int (nI tl)]))) := hD
  obtain ⟨ce1, hce1⟩ : ∃ z9, z9 = va_up ce 34 (.inr (3, [.int (nI 0), .ref (ad 35), .ref (ad 36), .ref (ad 37), .ref (ad 38), .ref (ad 39), .int (nI rs), .int (nI bu), .int (nI tl)])) := ⟨_, rfl⟩
  rw [wx_set (by omega), ← hce1] at hP hD
  have q1 : ce1 38 = .inl (cI, 512, .inl ga) := by rw [hce1, va_up_ne _ _ (by omega)]; exact h3
  have q2 : ce1 39 = .inl (cI, 512, .inl gb) := by rw [hce1, va_up_ne _ _ (by omega)]; exact h4
  have q3 : ce1 34 = .inr (3, [.int (nI 0), .ref (ad 35), .ref (ad 36), .ref (ad 37), .ref (ad 38), .ref (ad 39), .int (nI rs), .int (nI bu), .int (nI tl)]) := by rw [hce1, va_up_self]
  have fr4 : ∀ j, j ≠ 34 → ce1 j = ce j := fun j h0 => by rw [hce1, va_up_ne _ _ h0]
  refine lv_aload_n hx hb dM_number_5 rfl (lv_at hl 0 rfl) ?_
  refine lv_iconst (v := nI 1) hx hb dM_number_6 (by decide +kernel) ?_
  refine lv_iload_n hx hb dM_number_7 rfl (lv_at hl 1 rfl) ?_
  refine lv_if_lt (tgt := 19) hx hb dM_number_8 (by decide) (fun c8 => ?_) (fun c8 => ?_)
  · skip
    have no : ¬ ∃ k, k < tl ∧ x = nI k := fun ⟨k, h1, h2⟩ => neg_n c8 h2
    refine lv_iconst (v := nI (bN true)) hx hb dM_number_19 (by decide +kernel) ?_
    refine lv_goto (tgt := 24) hx hb dM_number_20 (by decide) ?_
    refine cvi (va_runV (As := [.int (nI 1), .int (nI (bN true))]) (rest := []) ⟨hx, hb, hml, hown, hA9⟩ (c_M_refuse l D cI cO cJ N ad ce1 H.size hN (nI 0) rs bu tl q3 1 true) (cwV 2 hA9 (gV mlM_38 miM_refuse msM_refuse mn_M mkM_refuse) rfl rfl rfl (by decide +kernel) ⟨Nat.le_of_ble_eq_true rfl, Nat.le_of_ble_eq_true rfl⟩) ⟨PM_bl, wx_recv hK hP (by omega) q3 rfl, PM_mk hK hP hD⟩ rfl rfl hl.1 rfl (lv_room (Nat.le_of_ble_eq_true rfl)) dM_number_24 ⟨Nat.le_of_ble_eq_true rfl, Nat.le_of_ble_eq_true rfl⟩) hS hD hA (fun r5 ce2 H locs hpost hP hD hS => ?_)
    obtain ⟨rfl, rf, rz⟩ := hpost
    have q6 : ce2 34 = .inr (3, [.int (nI 1), .ref (ad 35), .ref (ad 36), .ref (ad 37), .ref (ad 38), .ref (ad 39), .int (nI rs), .int (nI bu), .int (nI tl)]) := rz
    have q7 : ce2 38 = .inl (cI, 512, .inl ga) := (rf 38 (by omega)).trans q1
    have q8 : ce2 39 = .inl (cI, 512, .inl gb) := (rf 39 (by omega)).trans q2
    have fr9 : ∀ j, j ≠ 34 → ce2 j = ce j := fun j g0 => (rf j g0).trans (fr4 j g0)
    refine lv_if_eq (tgt := 32) hx hb dM_number_27 (by decide) (fun c27 => ?_) (fun c27 => ?_)
    · skip
      exact absurd c27 (by decide +kernel)
    · skip
      refine lv_iconst (v := nI 0) hx hb dM_number_30 (by decide +kernel) ?_
      exact W.iret (v := (nI 0)) hx hb hr (fun t ht hW => ⟨⟨(nI 0), ce2, rfl, ⟨(fun j g0 => fr9 j g0), Or.inr ⟨no, rfl, q6⟩⟩, by rw [ht]; exact hP, va_K.moved hW.alike hK, hD⟩, hS.F ht⟩) hS.2.2 dM_number_31
  · skip
    refine lv_iload_n hx hb dM_number_11 rfl (lv_at hl 1 rfl) ?_
    refine lv_aload_n hx hb dM_number_12 rfl (lv_at hl 0 rfl) ?_
    refine va_get (D := D) (ci := 3) (v := .int (nI tl)) (C := RM) (T := TM) (N := 9) hx hb hA9 inM hown hK hP 34 (wx_at (by omega) q3) rfl 8 (by decide) (hA9 _ mfM_35) (fun _ h9 => h9) rfl dM_number_13 ?_
    refine lv_icmp_lt (tgt := 23) hx hb dM_number_16 (by decide) (fun c16 => ?_) (fun c16 => ?_)
    · skip
      obtain ⟨k, hk, rfl⟩ := rl_mk c8 c16
      refine lv_iconst (v := nI (bN false)) hx hb dM_number_23 (by decide +kernel) ?_
      refine cvi (va_runV (As := [.int (nI 1), .int (nI (bN false))]) (rest := []) ⟨hx, hb, hml, hown, hA9⟩ (c_M_refuse l D cI cO cJ N ad ce1 H.size hN (nI 0) rs bu tl q3 1 false) (cwV 2 hA9 (gV mlM_38 miM_refuse msM_refuse mn_M mkM_refuse) rfl rfl rfl (by decide +kernel) ⟨Nat.le_of_ble_eq_true rfl, Nat.le_of_ble_eq_true rfl⟩) ⟨PM_bl, wx_recv hK hP (by omega) q3 rfl, PM_mk hK hP hD⟩ rfl rfl hl.1 rfl (lv_room (Nat.le_of_ble_eq_true rfl)) dM_number_24 ⟨Nat.le_of_ble_eq_true rfl, Nat.le_of_ble_eq_true rfl⟩) hS hD hA (fun r10 ce2 H locs hpost hP hD hS => ?_)
      obtain ⟨rfl, rf, rz⟩ := hpost
      have q11 : ce2 34 = .inr (3, [.int (nI 0), .ref (ad 35), .ref (ad 36), .ref (ad 37), .ref (ad 38), .ref (ad 39), .int (nI rs), .int (nI bu), .int (nI tl)]) := rz
      have q12 : ce2 38 = .inl (cI, 512, .inl ga) := (rf 38 (by omega)).trans q1
      have q13 : ce2 39 = .inl (cI, 512, .inl gb) := (rf 39 (by omega)).trans q2
      have fr14 : ∀ j, j ≠ 34 → ce2 j = ce j := fun j g0 => (rf j g0).trans (fr4 j g0)
      refine lv_if_eq (tgt := 32) hx hb dM_number_27 (by decide) (fun c27 => ?_) (fun c27 => ?_)
      · skip
        refine lv_sipush (v := nI 4096) hx hb dM_number_32 (by decide +kernel) ?_
        refine lv_aload_n hx hb dM_number_35 rfl (lv_at hl 0 rfl) ?_
        refine va_get (D := D) (ci := 3) (v := .ref (ad 38)) (C := RM) (T := TM) (N := 9) hx hb hA9 inM hown hK hP 34 (wx_at (by omega) q11) rfl 4 (by decide) (hA9 _ mfM_23) (fun _ h9 => h9) rfl dM_number_36 ?_
        refine lv_iload_n hx hb dM_number_39 rfl (lv_at hl 1 rfl) ?_
        refine va_iald hx hb hK hP 38 0 (wx_at (by omega) q12) rfl (inN) dM_number_40 ?_
        refine lv_topi (fun z15 ez15 => ?_)
        obtain rfl : z15 = nI (wv k) := by rw [ez15, clN]; exact (hw k hk).1
        refine lv_imul hx hb dM_number_41 ?_
        refine lv_aload_n hx hb dM_number_42 rfl (lv_at hl 0 rfl) ?_
        refine va_get (D := D) (ci := 3) (v := .ref (ad 39)) (C := RM) (T := TM) (N := 9) hx hb hA9 inM hown hK hP 34 (wx_at (by omega) q11) rfl 5 (by decide) (hA9 _ mfM_26) (fun _ h9 => h9) rfl dM_number_43 ?_
        refine lv_iload_n hx hb dM_number_46 rfl (lv_at hl 1 rfl) ?_
        refine va_iald hx hb hK hP 39 0 (wx_at (by omega) q13) rfl (inN) dM_number_47 ?_
        refine lv_topi (fun z16 ez16 => ?_)
        obtain rfl : z16 = nI (tv k) := by rw [ez16, clN]; exact (hw k hk).2
        refine lv_iadd hx hb dM_number_48 ?_
        refine lv_topi (fun z17 ez17 => ?_)
        obtain rfl : z17 = nI (wv k * 4096 + tv k) := by rw [ez17]; rw [pk_mul, nI_add, Nat.mul_comm]
        exact W.iret (v := (nI (wv k * 4096 + tv k))) hx hb hr (fun t ht hW => ⟨⟨(nI (wv k * 4096 + tv k)), ce2, rfl, ⟨(fun j g0 => fr14 j g0), Or.inl ⟨k, hk, rfl, rfl, q11⟩⟩, by rw [ht]; exact hP, va_K.moved hW.alike hK, hD⟩, hS.F ht⟩) hS.2.2 dM_number_49
      · skip
        exact absurd (show nI (bN false) = 0 from nI_0) c27
    · skip
      have no : ¬ ∃ k, k < tl ∧ x = nI k := fun ⟨k, h1, h2⟩ => c16 (by rw [h2]; exact nI_lt h1 (by omega))
      refine lv_iconst (v := nI (bN true)) hx hb dM_number_19 (by decide +kernel) ?_
      refine lv_goto (tgt := 24) hx hb dM_number_20 (by decide) ?_
      refine cvi (va_runV (As := [.int (nI 1), .int (nI (bN true))]) (rest := []) ⟨hx, hb, hml, hown, hA9⟩ (c_M_refuse l D cI cO cJ N ad ce1 H.size hN (nI 0) rs bu tl q3 1 true) (cwV 2 hA9 (gV mlM_38 miM_refuse msM_refuse mn_M mkM_refuse) rfl rfl rfl (by decide +kernel) ⟨Nat.le_of_ble_eq_true rfl, Nat.le_of_ble_eq_true rfl⟩) ⟨PM_bl, wx_recv hK hP (by omega) q3 rfl, PM_mk hK hP hD⟩ rfl rfl hl.1 rfl (lv_room (Nat.le_of_ble_eq_true rfl)) dM_number_24 ⟨Nat.le_of_ble_eq_true rfl, Nat.le_of_ble_eq_true rfl⟩) hS hD hA (fun r18 ce2 H locs hpost hP hD hS => ?_)
      obtain ⟨rfl, rf, rz⟩ := hpost
      have q19 : ce2 34 = .inr (3, [.int (nI 1), .ref (ad 35), .ref (ad 36), .ref (ad 37), .ref (ad 38), .ref (ad 39), .int (nI rs), .int (nI bu), .int (nI tl)]) := rz
      have q20 : ce2 38 = .inl (cI, 512, .inl ga) := (rf 38 (by omega)).trans q1
      have q21 : ce2 39 = .inl (cI, 512, .inl gb) := (rf 39 (by omega)).trans q2
      have fr22 : ∀ j, j ≠ 34 → ce2 j = ce j := fun j g0 => (rf j g0).trans (fr4 j g0)
      refine lv_if_eq (tgt := 32) hx hb dM_number_27 (by decide) (fun c27 => ?_) (fun c27 => ?_)
      · skip
        exact absurd c27 (by decide +kernel)
      · skip
        refine lv_iconst (v := nI 0) hx hb dM_number_30 (by decide +kernel) ?_
        exact W.iret (v := (nI 0)) hx hb hr (fun t ht hW => ⟨⟨(nI 0), ce2, rfl, ⟨(fun j g0 => fr22 j g0), Or.inr ⟨no, rfl, q19⟩⟩, by rw [ht]; exact hP, va_K.moved hW.alike hK, hD⟩, hS.F ht⟩) hS.2.2 dM_number_31

set_option maxHeartbeats 4000000 in
set_option maxRecDepth 100000 in
theorem c_M_count (l : Launch) (D : va_G) (cI cO cJ : ClassId) (N : Nat) (ad : Nat → Nat) (ce : Nat → va_E) (sz : Nat) (hN : 40 ≤ N) (th : Int32) (rs bu tl : Nat) (h0 : ce 34 = .inr (3, [.int (th), .ref (ad 35), .ref (ad 36), .ref (ad 37), .ref (ad 38), .ref (ad 39), .int (nI rs), .int (nI bu), .int (nI tl)])) (x : Int32) : Met l yM_count (.code yM_count bM_count 2 (some .int) :: WA) ({ frames := 0, cells := 0, slots := 0, locals := 0 }) (PM D (TY cI cO cJ) N ad ce sz [.ref (ad 34), .int (x)]) (va_Qi (fun (r : Int32) (ce1 : Nat → va_E) => (∀ j, j ≠ 34 → ce1 j = ce j) ∧ ce1 34 = .inr (3, [.int (nI 0), .ref (ad 35), .ref (ad 36), .ref (ad 37), .ref (ad 38), .ref (ad 39), .int (nI rs), .int (nI bu), .int (nI tl)]) ∧ r = (if x = 0 then nI rs else if x = 1 then nI bu else -1)) (BW D (TY cI cO cJ) N ad (AW N ad sz)) (AW N ad sz)) 0 0 (AW N ad sz) := by
  refine Met.ofW (cc := bM_count) (maxL := 2) (ret := (some .int)) (by decide) rfl ?_
  intro p e s m args below meth c s₁ B hml hv
  obtain ⟨rfl, hsz, hP, hK, hD0⟩ := hv
  have hx := B.exec
  have hb := B.bytes
  have hr := B.returns
  have hA9 : ∀ w ∈ WA, w.before _ s = true := fun w h => atoms_spec (ws := .code yM_count bM_count 2 (some .int) :: WA) B.pre w (List.mem_cons_of_mem _ h)
  have hown : s.vm.findClass RM = some m.cls := findClass_of_methodNamed B.named
  have hlocks := B.notSynchronized
  subst hsz
  have hD := aw_D (sz := s.heap.size) hD0
  generalize hAe : AW N ad s.heap.size = A at hD ⊢
  have hA : ∀ q, s.heap.size ≤ q → A q := fun q h => by rw [← hAe]; exact Or.inr h
  clear hAe hD0
  have hl := lv_entry ([.ref (ad 34), .int (x)]) (n := 2) (Nat.le_of_ble_eq_true rfl)
  rw [lg_entry_eq]
  generalize (lg_sl ([.ref (ad 34), .int (x)]) ++ List.replicate (2 - (lg_sl ([.ref (ad 34), .int (x)])).length) Slot.unset).toArray = ls at hl ⊢
  have hl : lv_has ls 2 [(0, .ref (ad 34)), (1, .int (x))] := hl
  refine st0 (A := A) (fun H locs hS hH => ?_)
  rw [← hH] at hP
  clear hH
  refine lv_aload_n hx hb dM_count_0 rfl (lv_at hl 0 rfl) ?_
  refine lv_iconst (v := nI 0) hx hb dM_count_1 (by decide +kernel) ?_
  refine va_put (D := D) (ci := 3) (v := .int (nI 0)) (ty := .int) (C := RM) (T := TM) (N := 9) hx hb hA9 inM tyM tyM_ok nmM hown hK hP hD hS 34 (wx_at (by omega) h0) rfl 0 (by decide) (hA9 _ mfM_7) (fun _ h9 => h9) rfl (by decide +kernel) rfl rfl (Nat.le_of_ble_eq_true rfl) dM_count_2 (fun H locs hP hD hS => ?_)
  replace hP : va_P D CLS ((wx N ad ce).set 34 (ad 34, .inr (3, [.int (nI 0), .ref (ad 35), .ref (ad 36), .ref (ad 37), .ref (ad 38), .ref (ad 39), .int (nI rs), .int (nI bu), .int (nI tl)]))) H := hP
  replace hD : va_D A ((wx N ad ce).set 34 (ad 34, .inr (3, [.int (nI 0), .ref (ad 35), .ref (ad 36), .ref (ad 37), .ref (ad 38), .ref (ad 39), .int (nI rs), .int (nI bu), .int (nI tl)]))) := hD
  obtain ⟨ce1, hce1⟩ : ∃ z9, z9 = va_up ce 34 (.inr (3, [.int (nI 0), .ref (ad 35), .ref (ad 36), .ref (ad 37), .ref (ad 38), .ref (ad 39), .int (nI rs), .int (nI bu), .int (nI tl)])) := ⟨_, rfl⟩
  rw [wx_set (by omega), ← hce1] at hP hD
  have q1 : ce1 34 = .inr (3, [.int (nI 0), .ref (ad 35), .ref (ad 36), .ref (ad 37), .ref (ad 38), .ref (ad 39), .int (nI rs), .int (nI bu), .int (nI tl)]) := by rw [hce1, va_up_self]
  have fr2 : ∀ j, j ≠ 34 → ce1 j = ce j := fun j h0 => by rw [hce1, va_up_ne _ _ h0]
  refine lv_iload_n hx hb dM_count_5 rfl (lv_at hl 1 rfl) ?_
  refine lv_if_ne (tgt := 16) hx hb dM_count_6 (by decide) (fun c6 => ?_) (fun c6 => ?_)
  · skip
    refine lv_iload_n hx hb dM_count_16 rfl (lv_at hl 1 rfl) ?_
    refine lv_iconst (v := 1) hx hb dM_count_17 (by decide +kernel) ?_
    refine lv_icmp_ne (tgt := 28) hx hb dM_count_18 (by decide) (fun c18 => ?_) (fun c18 => ?_)
    · skip
      refine lv_iconst (v := (-1)) hx hb dM_count_28 (by decide +kernel) ?_
      exact W.iret (v := ((-1))) hx hb hr (fun t ht hW => ⟨⟨((-1)), ce1, rfl, ⟨(fun j g0 => fr2 j g0), q1, by rw [if_neg c6, if_neg c18]⟩, by rw [ht]; exact hP, va_K.moved hW.alike hK, hD⟩, hS.F ht⟩) hS.2.2 dM_count_29
    · skip
      refine lv_aload_n hx hb dM_count_21 rfl (lv_at hl 0 rfl) ?_
      refine va_get (D := D) (ci := 3) (v := .int (nI bu)) (C := RM) (T := TM) (N := 9) hx hb hA9 inM hown hK hP 34 (wx_at (by omega) q1) rfl 7 (by decide) (hA9 _ mfM_32) (fun _ h9 => h9) rfl dM_count_22 ?_
      refine lv_goto (tgt := 29) hx hb dM_count_25 (by decide) ?_
      exact W.iret (v := (nI bu)) hx hb hr (fun t ht hW => ⟨⟨(nI bu), ce1, rfl, ⟨(fun j g0 => fr2 j g0), q1, by rw [if_neg c6, if_pos c18]⟩, by rw [ht]; exact hP, va_K.moved hW.alike hK, hD⟩, hS.F ht⟩) hS.2.2 dM_count_29
  · skip
    refine lv_aload_n hx hb dM_count_9 rfl (lv_at hl 0 rfl) ?_
    refine va_get (D := D) (ci := 3) (v := .int (nI rs)) (C := RM) (T := TM) (N := 9) hx hb hA9 inM hown hK hP 34 (wx_at (by omega) q1) rfl 6 (by decide) (hA9 _ mfM_29) (fun _ h9 => h9) rfl dM_count_10 ?_
    refine lv_goto (tgt := 29) hx hb dM_count_13 (by decide) ?_
    exact W.iret (v := (nI rs)) hx hb hr (fun t ht hW => ⟨⟨(nI rs), ce1, rfl, ⟨(fun j g0 => fr2 j g0), q1, by rw [if_pos c6]⟩, by rw [ht]; exact hP, va_K.moved hW.alike hK, hD⟩, hS.F ht⟩) hS.2.2 dM_count_29
end
section
set_option maxHeartbeats 4000000 in
set_option maxRecDepth 100000 in
theorem c_M_noPart (l : Launch) (D : va_G) (cI cO cJ : ClassId) (N : Nat) (ad : Nat → Nat) (ce : Nat → va_E) (sz : Nat) (hN : 40 ≤ N) (th : Int32) (rs bu tl : Nat) (h0 : ce 34 = .inr (3, [.int (th), .ref (ad 35), .ref (ad 36), .ref (ad 37), .ref (ad 38), .ref (ad 39), .int (nI rs), .int (nI bu), .int (nI tl)])) (hbu : bu ≤ 4000) (a b : Int32) (mo : Bool) : Met l yM_noPart (.code yM_noPart bM_noPart 4 (some .boolean) :: WA) ({ frames := 1, cells := 0, slots := 0, locals := 22 }) (PM D (TY cI cO cJ) N ad ce sz [.ref (ad 34), .int (a), .int (b), .int (nI (bN mo))]) (va_Qi (fun (r : Int32) (ce1 : Nat → va_E) => (∀ j, j ≠ 34 → ce1 j = ce j) ∧ ((PA a b bu ∧ mo = false ∧ r = nI (bN false) ∧ ce1 34 = .inr (3, [.int (nI 0), .ref (ad 35), .ref (ad 36), .ref (ad 37), .ref (ad 38), .ref (ad 39), .int (nI rs), .int (nI bu), .int (nI tl)])) ∨ (¬ (PA a b bu ∧ mo = false) ∧ r = nI (bN true) ∧ ce1 34 = .inr (3, [.int (nI 1), .ref (ad 35), .ref (ad 36), .ref (ad 37), .ref (ad 38), .ref (ad 39), .int (nI rs), .int (nI bu), .int (nI tl)])))) (BW D (TY cI cO cJ) N ad (AW N ad sz)) (AW N ad sz)) 0 0 (AW N ad sz) := by
  refine Met.ofW (cc := bM_noPart) (maxL := 4) (ret := (some .boolean)) (by decide) rfl ?_
  intro p e s m args below meth c s₁ B hml hv
  obtain ⟨rfl, hsz, hP, hK, hD0⟩ := hv
  have hx := B.exec
  have hb := B.bytes
  have hr := B.returns
  have hA9 : ∀ w ∈ WA, w.before _ s = true := fun w h => atoms_spec (ws := .code yM_noPart bM_noPart 4 (some .boolean) :: WA) B.pre w (List.mem_cons_of_mem _ h)
  have hown : s.vm.findClass RM = some m.cls := findClass_of_methodNamed B.named
  have hlocks := B.notSynchronized
  subst hsz
  have hD := aw_D (sz := s.heap.size) hD0
  generalize hAe : AW N ad s.heap.size = A at hD ⊢
  have hA : ∀ q, s.heap.size ≤ q → A q := fun q h => by rw [← hAe]; exact Or.inr h
  clear hAe hD0
  have hl := lv_entry ([.ref (ad 34), .int (a), .int (b), .int (nI (bN mo))]) (n := 4) (Nat.le_of_ble_eq_true rfl)
  rw [lg_entry_eq]
  generalize (lg_sl ([.ref (ad 34), .int (a), .int (b), .int (nI (bN mo))]) ++ List.replicate (4 - (lg_sl ([.ref (ad 34), .int (a), .int (b), .int (nI (bN mo))])).length) Slot.unset).toArray = ls at hl ⊢
  have hl : lv_has ls 4 [(0, .ref (ad 34)), (1, .int (a)), (2, .int (b)), (3, .int (nI (bN mo)))] := hl
  refine st0 (A := A) (fun H locs hS hH => ?_)
  rw [← hH] at hP
  clear hH
  refine lv_aload_n hx hb dM_noPart_0 rfl (lv_at hl 0 rfl) ?_
  refine lv_iconst (v := nI 0) hx hb dM_noPart_1 (by decide +kernel) ?_
  refine va_put (D := D) (ci := 3) (v := .int (nI 0)) (ty := .int) (C := RM) (T := TM) (N := 9) hx hb hA9 inM tyM tyM_ok nmM hown hK hP hD hS 34 (wx_at (by omega) h0) rfl 0 (by decide) (hA9 _ mfM_7) (fun _ h9 => h9) rfl (by decide +kernel) rfl rfl (Nat.le_of_ble_eq_true rfl) dM_noPart_2 (fun H locs hP hD hS => ?_)
  replace hP : va_P D CLS ((wx N ad ce).set 34 (ad 34, .inr (3, [.int (nI 0), .ref (ad 35), .ref (ad 36), .ref (ad 37), .ref (ad 38), .ref (ad 39), .int (nI rs), .int (nI bu), .int (nI tl)]))) H := hP
  replace hD : va_D A ((wx N ad ce).set 34 (ad 34, .inr (3, [.int (nI 0), .ref (ad 35), .ref (ad 36), .ref (ad 37), .ref (ad 38), .ref (ad 39), .int (nI rs), .int (nI bu), .int (nI tl)]))) := hD
  obtain ⟨ce1, hce1⟩ : ∃ z9, z9 = va_up ce 34 (.inr (3, [.int (nI 0), .ref (ad 35), .ref (ad 36), .ref (ad 37), .ref (ad 38), .ref (ad 39), .int (nI rs), .int (nI bu), .int (nI tl)])) := ⟨_, rfl⟩
  rw [wx_set (by omega), ← hce1] at hP hD
  have q1 : ce1 34 = .inr (3, [.int (nI 0), .ref (ad 35), .ref (ad 36), .ref (ad 37), .ref (ad 38), .ref (ad 39), .int (nI rs), .int (nI bu), .int (nI tl)]) := by rw [hce1, va_up_self]
  have fr2 : ∀ j, j ≠ 34 → ce1 j = ce j := fun j h0 => by rw [hce1, va_up_ne _ _ h0]
  refine lv_aload_n hx hb dM_noPart_5 rfl (lv_at hl 0 rfl) ?_
  refine lv_iconst (v := nI 1) hx hb dM_noPart_6 (by decide +kernel) ?_
  refine lv_iload_n hx hb dM_noPart_7 rfl (lv_at hl 1 rfl) ?_
  refine lv_if_lt (tgt := 28) hx hb dM_noPart_8 (by decide) (fun c8 => ?_) (fun c8 => ?_)
  · skip
    have no : ¬ (PA a b bu ∧ mo = false) := fun h => pa_1 hbu c8 h.1
    refine lv_iconst (v := nI (bN true)) hx hb dM_noPart_28 (by decide +kernel) ?_
    refine lv_goto (tgt := 33) hx hb dM_noPart_29 (by decide) ?_
    refine cvi (va_runV (As := [.int (nI 1), .int (nI (bN true))]) (rest := []) ⟨hx, hb, hml, hown, hA9⟩ (c_M_refuse l D cI cO cJ N ad ce1 H.size hN (nI 0) rs bu tl q1 1 true) (cwV 2 hA9 (gV mlM_38 miM_refuse msM_refuse mn_M mkM_refuse) rfl rfl rfl (by decide +kernel) ⟨Nat.le_of_ble_eq_true rfl, Nat.le_of_ble_eq_true rfl⟩) ⟨PM_bl, wx_recv hK hP (by omega) q1 rfl, PM_mk hK hP hD⟩ rfl rfl hl.1 rfl (lv_room (Nat.le_of_ble_eq_true rfl)) dM_noPart_33 ⟨Nat.le_of_ble_eq_true rfl, Nat.le_of_ble_eq_true rfl⟩) hS hD hA (fun r3 ce2 H locs hpost hP hD hS => ?_)
    obtain ⟨rfl, rf, rz⟩ := hpost
    have q4 : ce2 34 = .inr (3, [.int (nI 1), .ref (ad 35), .ref (ad 36), .ref (ad 37), .ref (ad 38), .ref (ad 39), .int (nI rs), .int (nI bu), .int (nI tl)]) := rz
    have fr5 : ∀ j, j ≠ 34 → ce2 j = ce j := fun j g0 => (rf j g0).trans (fr2 j g0)
    exact W.zret (v := (nI (bN true))) hx hb hr (by decide +kernel) (fun t ht hW => ⟨⟨(nI (bN true)), ce2, rfl, ⟨(fun j g0 => fr5 j g0), Or.inr ⟨no, rfl, q4⟩⟩, by rw [ht]; exact hP, va_K.moved hW.alike hK, hD⟩, hS.F ht⟩) hS.2.2 dM_noPart_36
  · skip
    refine lv_iload_n hx hb dM_noPart_11 rfl (lv_at hl 1 rfl) ?_
    refine lv_iload_n hx hb dM_noPart_12 rfl (lv_at hl 2 rfl) ?_
    refine lv_icmp_gt (tgt := 28) hx hb dM_noPart_13 (by decide) (fun c13 => ?_) (fun c13 => ?_)
    · skip
      have no : ¬ (PA a b bu ∧ mo = false) := fun h => pa_2 hbu c13 h.1
      refine lv_iconst (v := nI (bN true)) hx hb dM_noPart_28 (by decide +kernel) ?_
      refine lv_goto (tgt := 33) hx hb dM_noPart_29 (by decide) ?_
      refine cvi (va_runV (As := [.int (nI 1), .int (nI (bN true))]) (rest := []) ⟨hx, hb, hml, hown, hA9⟩ (c_M_refuse l D cI cO cJ N ad ce1 H.size hN (nI 0) rs bu tl q1 1 true) (cwV 2 hA9 (gV mlM_38 miM_refuse msM_refuse mn_M mkM_refuse) rfl rfl rfl (by decide +kernel) ⟨Nat.le_of_ble_eq_true rfl, Nat.le_of_ble_eq_true rfl⟩) ⟨PM_bl, wx_recv hK hP (by omega) q1 rfl, PM_mk hK hP hD⟩ rfl rfl hl.1 rfl (lv_room (Nat.le_of_ble_eq_true rfl)) dM_noPart_33 ⟨Nat.le_of_ble_eq_true rfl, Nat.le_of_ble_eq_true rfl⟩) hS hD hA (fun r6 ce2 H locs hpost hP hD hS => ?_)
      obtain ⟨rfl, rf, rz⟩ := hpost
      have q7 : ce2 34 = .inr (3, [.int (nI 1), .ref (ad 35), .ref (ad 36), .ref (ad 37), .ref (ad 38), .ref (ad 39), .int (nI rs), .int (nI bu), .int (nI tl)]) := rz
      have fr8 : ∀ j, j ≠ 34 → ce2 j = ce j := fun j g0 => (rf j g0).trans (fr2 j g0)
      exact W.zret (v := (nI (bN true))) hx hb hr (by decide +kernel) (fun t ht hW => ⟨⟨(nI (bN true)), ce2, rfl, ⟨(fun j g0 => fr8 j g0), Or.inr ⟨no, rfl, q7⟩⟩, by rw [ht]; exact hP, va_K.moved hW.alike hK, hD⟩, hS.F ht⟩) hS.2.2 dM_noPart_36
    · skip
      refine lv_iload_n hx hb dM_noPart_16 rfl (lv_at hl 2 rfl) ?_
      refine lv_aload_n hx hb dM_noPart_17 rfl (lv_at hl 0 rfl) ?_
      refine va_get (D := D) (ci := 3) (v := .int (nI bu)) (C := RM) (T := TM) (N := 9) hx hb hA9 inM hown hK hP 34 (wx_at (by omega) q1) rfl 7 (by decide) (hA9 _ mfM_32) (fun _ h9 => h9) rfl dM_noPart_18 ?_
      refine lv_icmp_gt (tgt := 28) hx hb dM_noPart_21 (by decide) (fun c21 => ?_) (fun c21 => ?_)
      · skip
        have no : ¬ (PA a b bu ∧ mo = false) := fun h => pa_3 hbu c21 h.1
        refine lv_iconst (v := nI (bN true)) hx hb dM_noPart_28 (by decide +kernel) ?_
        refine lv_goto (tgt := 33) hx hb dM_noPart_29 (by decide) ?_
        refine cvi (va_runV (As := [.int (nI 1), .int (nI (bN true))]) (rest := []) ⟨hx, hb, hml, hown, hA9⟩ (c_M_refuse l D cI cO cJ N ad ce1 H.size hN (nI 0) rs bu tl q1 1 true) (cwV 2 hA9 (gV mlM_38 miM_refuse msM_refuse mn_M mkM_refuse) rfl rfl rfl (by decide +kernel) ⟨Nat.le_of_ble_eq_true rfl, Nat.le_of_ble_eq_true rfl⟩) ⟨PM_bl, wx_recv hK hP (by omega) q1 rfl, PM_mk hK hP hD⟩ rfl rfl hl.1 rfl (lv_room (Nat.le_of_ble_eq_true rfl)) dM_noPart_33 ⟨Nat.le_of_ble_eq_true rfl, Nat.le_of_ble_eq_true rfl⟩) hS hD hA (fun r9 ce2 H locs hpost hP hD hS => ?_)
        obtain ⟨rfl, rf, rz⟩ := hpost
        have q10 : ce2 34 = .inr (3, [.int (nI 1), .ref (ad 35), .ref (ad 36), .ref (ad 37), .ref (ad 38), .ref (ad 39), .int (nI rs), .int (nI bu), .int (nI tl)]) := rz
        have fr11 : ∀ j, j ≠ 34 → ce2 j = ce j := fun j g0 => (rf j g0).trans (fr2 j g0)
        exact W.zret (v := (nI (bN true))) hx hb hr (by decide +kernel) (fun t ht hW => ⟨⟨(nI (bN true)), ce2, rfl, ⟨(fun j g0 => fr11 j g0), Or.inr ⟨no, rfl, q10⟩⟩, by rw [ht]; exact hP, va_K.moved hW.alike hK, hD⟩, hS.F ht⟩) hS.2.2 dM_noPart_36
      · skip
        refine lv_iload_n hx hb dM_noPart_24 rfl (lv_at hl 3 rfl) ?_
        refine lv_if_eq (tgt := 32) hx hb dM_noPart_25 (by decide) (fun c25 => ?_) (fun c25 => ?_)
        · skip
          have hm := bz_f c25
          have ok : PA a b bu := pa_mk c8 c13 c21
          refine lv_iconst (v := nI (bN false)) hx hb dM_noPart_32 (by decide +kernel) ?_
          refine cvi (va_runV (As := [.int (nI 1), .int (nI (bN false))]) (rest := []) ⟨hx, hb, hml, hown, hA9⟩ (c_M_refuse l D cI cO cJ N ad ce1 H.size hN (nI 0) rs bu tl q1 1 false) (cwV 2 hA9 (gV mlM_38 miM_refuse msM_refuse mn_M mkM_refuse) rfl rfl rfl (by decide +kernel) ⟨Nat.le_of_ble_eq_true rfl, Nat.le_of_ble_eq_true rfl⟩) ⟨PM_bl, wx_recv hK hP (by omega) q1 rfl, PM_mk hK hP hD⟩ rfl rfl hl.1 rfl (lv_room (Nat.le_of_ble_eq_true rfl)) dM_noPart_33 ⟨Nat.le_of_ble_eq_true rfl, Nat.le_of_ble_eq_true rfl⟩) hS hD hA (fun r12 ce2 H locs hpost hP hD hS => ?_)
          obtain ⟨rfl, rf, rz⟩ := hpost
          have q13 : ce2 34 = .inr (3, [.int (nI 0), .ref (ad 35), .ref (ad 36), .ref (ad 37), .ref (ad 38), .ref (ad 39), .int (nI rs), .int (nI bu), .int (nI tl)]) := rz
          have fr14 : ∀ j, j ≠ 34 → ce2 j = ce j := fun j g0 => (rf j g0).trans (fr2 j g0)
          exact W.zret (v := (nI (bN false))) hx hb hr (by decide +kernel) (fun t ht hW => ⟨⟨(nI (bN false)), ce2, rfl, ⟨(fun j g0 => fr14 j g0), Or.inl ⟨ok, hm, rfl, q13⟩⟩, by rw [ht]; exact hP, va_K.moved hW.alike hK, hD⟩, hS.F ht⟩) hS.2.2 dM_noPart_36
        · skip
          have hm9 := bz_t c25
          have no : ¬ (PA a b bu ∧ mo = false) := fun h => Bool.noConfusion (hm9.symm.trans h.2)
          refine lv_iconst (v := nI (bN true)) hx hb dM_noPart_28 (by decide +kernel) ?_
          refine lv_goto (tgt := 33) hx hb dM_noPart_29 (by decide) ?_
          refine cvi (va_runV (As := [.int (nI 1), .int (nI (bN true))]) (rest := []) ⟨hx, hb, hml, hown, hA9⟩ (c_M_refuse l D cI cO cJ N ad ce1 H.size hN (nI 0) rs bu tl q1 1 true) (cwV 2 hA9 (gV mlM_38 miM_refuse msM_refuse mn_M mkM_refuse) rfl rfl rfl (by decide +kernel) ⟨Nat.le_of_ble_eq_true rfl, Nat.le_of_ble_eq_true rfl⟩) ⟨PM_bl, wx_recv hK hP (by omega) q1 rfl, PM_mk hK hP hD⟩ rfl rfl hl.1 rfl (lv_room (Nat.le_of_ble_eq_true rfl)) dM_noPart_33 ⟨Nat.le_of_ble_eq_true rfl, Nat.le_of_ble_eq_true rfl⟩) hS hD hA (fun r15 ce2 H locs hpost hP hD hS => ?_)
          obtain ⟨rfl, rf, rz⟩ := hpost
          have q16 : ce2 34 = .inr (3, [.int (nI 1), .ref (ad 35), .ref (ad 36), .ref (ad 37), .ref (ad 38), .ref (ad 39), .int (nI rs), .int (nI bu), .int (nI tl)]) := rz
          have fr17 : ∀ j, j ≠ 34 → ce2 j = ce j := fun j g0 => (rf j g0).trans (fr2 j g0)
          exact W.zret (v := (nI (bN true))) hx hb hr (by decide +kernel) (fun t ht hW => ⟨⟨(nI (bN true)), ce2, rfl, ⟨(fun j g0 => fr17 j g0), Or.inr ⟨no, rfl, q16⟩⟩, by rw [ht]; exact hP, va_K.moved hW.alike hK, hD⟩, hS.F ht⟩) hS.2.2 dM_noPart_36

set_option maxHeartbeats 4000000 in
set_option maxRecDepth 100000 in
theorem c_M_counted (l : Launch) (D : va_G) (cI cO cJ : ClassId) (N : Nat) (ad : Nat → Nat) (ce : Nat → va_E) (sz : Nat) (hN : 40 ≤ N) (th : Int32) (rs bu tl : Nat) (h0 : ce 34 = .inr (3, [.int (th), .ref (ad 35), .ref (ad 36), .ref (ad 37), .ref (ad 38), .ref (ad 39), .int (nI rs), .int (nI bu), .int (nI tl)])) (mt : Nat → Int32) (h2 : ce 36 = .inl (cI, 4000, .inl mt)) (f : Nat → Nat) (hmt : ∀ i, i < bu → mt i = nI (f i)) (hf : ∀ i, i < bu → f i < 512) (hbu : bu ≤ 4000) (cg9 : Nat → Int32) (h3 : ce 37 = .inl (cI, 512, .inl cg9)) (u v : Nat) (huv : u ≤ v) (hv : v ≤ bu) : Met l yM_counted (.code yM_counted bM_counted 4 none :: WA) ({ frames := 0, cells := 0, slots := 0, locals := 0 }) (PM D (TY cI cO cJ) N ad ce sz [.ref (ad 34), .int (nI u), .int (nI v)]) (va_Qv (fun (ce1 : Nat → va_E) => (∀ j, j ≠ 37 → ce1 j = ce j) ∧ ∃ g1 : Nat → Int32, ce1 37 = .inl (cI, 512, .inl g1) ∧ ∀ w, w < 512 → g1 w = nI (eq f w u v)) (BW D (TY cI cO cJ) N ad (AW N ad sz)) (AW N ad sz)) 0 0 (AW N ad sz) := by
  refine Met.ofW (cc := bM_counted) (maxL := 4) (ret := none) (by decide) rfl ?_
  intro p e s m args below meth c s₁ B hml hv
  obtain ⟨rfl, hsz, hP, hK, hD0⟩ := hv
  have hx := B.exec
  have hb := B.bytes
  have hr := B.returns
  have hA9 : ∀ w ∈ WA, w.before _ s = true := fun w h => atoms_spec (ws := .code yM_counted bM_counted 4 none :: WA) B.pre w (List.mem_cons_of_mem _ h)
  have hown : s.vm.findClass RM = some m.cls := findClass_of_methodNamed B.named
  have hlocks := B.notSynchronized
  subst hsz
  have hD := aw_D (sz := s.heap.size) hD0
  generalize hAe : AW N ad s.heap.size = A at hD ⊢
  have hA : ∀ q, s.heap.size ≤ q → A q := fun q h => by rw [← hAe]; exact Or.inr h
  clear hAe hD0
  have hl := lv_entry ([.ref (ad 34), .int (nI u), .int (nI v)]) (n := 4) (Nat.le_of_ble_eq_true rfl)
  rw [lg_entry_eq]
  generalize (lg_sl ([.ref (ad 34), .int (nI u), .int (nI v)]) ++ List.replicate (4 - (lg_sl ([.ref (ad 34), .int (nI u), .int (nI v)])).length) Slot.unset).toArray = ls at hl ⊢
  have hl : lv_has ls 4 [(0, .ref (ad 34)), (1, .int (nI u)), (2, .int (nI v))] := hl
  refine st0 (A := A) (fun H locs hS hH => ?_)
  rw [← hH] at hP
  clear hH
  refine lv_iconst (v := nI 0) hx hb dM_counted_0 (by decide +kernel) ?_
  refine lv_istore_n (lv' := [(3, .int (nI 0)), (0, .ref (ad 34)), (1, .int (nI u)), (2, .int (nI v))]) hx hb dM_counted_1 rfl hl (by decide) rfl (fun ls hl => ?_)
  obtain ⟨cl, hcl0⟩ : ∃ z : Nat → va_E, ce = z := ⟨_, rfl⟩
  obtain ⟨i, hi0⟩ : ∃ z : Nat, (0) = z := ⟨_, rfl⟩
  obtain ⟨g1, hg10⟩ : ∃ z : Nat → Int32, (cg9) = z := ⟨_, rfl⟩
  replace hl : lv_has ls 4 [(3, .int (nI i)), (0, .ref (ad 34)), (1, .int (nI u)), (2, .int (nI v))] := by subst hi0 hg10; exact lv_sub hl [0, 1, 2, 3] rfl
  have J : (∀ j, j ≠ 37 → cl j = ce j) ∧ cl 37 = .inl (cI, 512, .inl g1) ∧ i ≤ 512 ∧ ∀ j, j < i → g1 j = nI 0 := by
    subst hcl0 hi0 hg10
    exact ⟨(fun j g0 => rfl), h3, ⟨by omega, fun j h => absurd h (by omega)⟩⟩
  rw [hcl0] at hP hD
  clear hcl0 hi0 hg10
  obtain ⟨k9, hk9⟩ : ∃ z9 : Nat, z9 = 512 - i := ⟨_, rfl⟩
  induction k9 using Nat.strongRecOn generalizing i g1 cl H locs ls with
  | ind k9 ih =>
    obtain ⟨fr2, q1, JJ⟩ := J
    obtain ⟨j1, j2⟩ := JJ
    refine lv_iload_n hx hb dM_counted_2 rfl (lv_at hl 0 rfl) ?_
    refine lv_sipush (v := nI 512) hx hb dM_counted_3 (by decide +kernel) ?_
    refine lv_icmp_ge (tgt := 22) hx hb dM_counted_6 (by decide) (fun c6 => ?_) (fun c6 => ?_)
    · skip
      have d1 := leN c6
      refine lv_iload_n hx hb dM_counted_22 rfl (lv_at hl 2 rfl) ?_
      refine lv_istore_n (lv' := [(3, .int (nI u)), (0, .ref (ad 34)), (1, .int (nI u)), (2, .int (nI v))]) hx hb dM_counted_23 rfl hl (by decide) rfl (fun ls hl => ?_)
      obtain ⟨cl, hcl0⟩ : ∃ z : Nat → va_E, cl = z := ⟨_, rfl⟩
      obtain ⟨k, hk0⟩ : ∃ z : Nat, (u) = z := ⟨_, rfl⟩
      obtain ⟨g2, hg20⟩ : ∃ z : Nat → Int32, (g1) = z := ⟨_, rfl⟩
      replace hl : lv_has ls 4 [(3, .int (nI k)), (0, .ref (ad 34)), (1, .int (nI u)), (2, .int (nI v))] := by subst hk0 hg20; exact lv_sub hl [0, 1, 2, 3] rfl
      have J : (∀ j, j ≠ 37 → cl j = ce j) ∧ cl 37 = .inl (cI, 512, .inl g2) ∧ u ≤ k ∧ k ≤ v ∧ ∀ w, w < 512 → g2 w = nI (eq f w u k) := by
        subst hcl0 hk0 hg20
        exact ⟨(fun j g0 => fr2 j g0), q1, ⟨Nat.le_refl u, huv, fun w hw => by rw [j2 w (by omega), show eq f w u u = 0 from ct_0 _ _]⟩⟩
      rw [hcl0] at hP hD
      clear hcl0 hk0 hg20
      obtain ⟨k9, hk9⟩ : ∃ z9 : Nat, z9 = v - k := ⟨_, rfl⟩
      induction k9 using Nat.strongRecOn generalizing k g2 cl H locs ls with
      | ind k9 ih =>
        obtain ⟨fr4, q3, JJ⟩ := J
        obtain ⟨j3, j4, j5⟩ := JJ
        refine lv_iload_n hx hb dM_counted_24 rfl (lv_at hl 0 rfl) ?_
        refine lv_iload_n hx hb dM_counted_25 rfl (lv_at hl 3 rfl) ?_
        refine lv_icmp_ge (tgt := 50) hx hb dM_counted_26 (by decide) (fun c26 => ?_) (fun c26 => ?_)
        · skip
          have d2 := leN c26
          have hkv : k = v := by omega
          subst hkv
          exact W.vret hx hb hr (fun t ht hW => ⟨⟨cl, rfl, ⟨(fun j g0 => fr4 j g0), g2, q3, j5⟩, by rw [ht]; exact hP, va_K.moved hW.alike hK, hD⟩, hS.F ht⟩) hS.2.2 dM_counted_50
        · skip
          have d2 := nleN c26
          have hfk := hf k (by omega)
          refine lv_aload_n hx hb dM_counted_29 rfl (lv_at hl 1 rfl) ?_
          refine va_get (D := D) (ci := 3) (v := .ref (ad 37)) (C := RM) (T := TM) (N := 9) hx hb hA9 inM hown hK hP 34 (wx_at (by omega) ((fr4 34 (by omega)).trans h0)) rfl 3 (by decide) (hA9 _ mfM_20) (fun _ h9 => h9) rfl dM_counted_30 ?_
          refine lv_aload_n hx hb dM_counted_33 rfl (lv_at hl 1 rfl) ?_
          refine va_get (D := D) (ci := 3) (v := .ref (ad 36)) (C := RM) (T := TM) (N := 9) hx hb hA9 inM hown hK hP 34 (wx_at (by omega) ((fr4 34 (by omega)).trans h0)) rfl 2 (by decide) (hA9 _ mfM_17) (fun _ h9 => h9) rfl dM_counted_34 ?_
          refine lv_iload_n hx hb dM_counted_37 rfl (lv_at hl 0 rfl) ?_
          refine va_iald hx hb hK hP 36 0 (wx_at (by omega) ((fr4 36 (by omega)).trans h2)) rfl (inN) dM_counted_38 ?_
          refine lv_topi (fun z5 ez5 => ?_)
          obtain rfl : z5 = nI (f k) := by rw [ez5, clN]; exact hmt k (by omega)
          refine lv_dup2_11 hx hb dM_counted_39 rfl rfl ?_
          refine va_iald hx hb hK hP 37 0 (wx_at (by omega) q3) rfl (inN) dM_counted_40 ?_
          refine lv_topi (fun z6 ez6 => ?_)
          obtain rfl : z6 = nI (eq f (f k) u k) := by rw [ez6, clN]; exact j5 _ hfk
          refine lv_iconst (v := nI 1) hx hb dM_counted_41 (by decide +kernel) ?_
          refine lv_iadd hx hb dM_counted_42 ?_
          refine lv_topi (fun z7 ez7 => ?_)
          obtain rfl : z7 = nI (eq f (f k) u k + 1) := by rw [ez7]; exact nI_add _ _
          refine va_iast hx hb hK hP hD hS 37 0 (wx_at (by omega) q3) rfl (inN) dM_counted_43 (fun H locs hP hD hS => ?_)
          rw [clN (a := (f k))] at hP hD
          obtain ⟨ce1, hce1⟩ : ∃ z9, z9 = va_up cl 37 (.inl (cI, 512, .inl (upd g2 (f k) (nI (eq f (f k) u k + 1))))) := ⟨_, rfl⟩
          rw [wx_set (by omega), ← hce1] at hP hD
          have q8 : ce1 34 = .inr (3, [.int (th), .ref (ad 35), .ref (ad 36), .ref (ad 37), .ref (ad 38), .ref (ad 39), .int (nI rs), .int (nI bu), .int (nI tl)]) := by rw [hce1, va_up_ne _ _ (by omega)]; exact ((fr4 34 (by omega)).trans h0)
          have q9 : ce1 36 = .inl (cI, 4000, .inl mt) := by rw [hce1, va_up_ne _ _ (by omega)]; exact ((fr4 36 (by omega)).trans h2)
          have q10 : ce1 37 = .inl (cI, 512, .inl (upd g2 (f k) (nI (eq f (f k) u k + 1)))) := by rw [hce1, va_up_self]
          have fr11 : ∀ j, j ≠ 37 → ce1 j = ce j := fun j h0 => by rw [hce1, va_up_ne _ _ h0]; exact fr4 j h0
          refine lv_iinc (v := nI (k + 1)) (lv' := [(3, .int (nI (k + 1))), (0, .ref (ad 34)), (1, .int (nI u)), (2, .int (nI v))]) hx hb dM_counted_44 hl (k := 0) rfl (nI_1 k) (by decide) rfl (fun ls hl => ?_)
          refine lv_goto (tgt := 24) hx hb dM_counted_47 (by decide) ?_
          exact ih _ (by omega) (ls := ls) (cl := ce1) (H := H) (locs := locs) (k := k + 1) (g2 := upd g2 (f k) (nI (eq f (f k) u k + 1))) (hP := hP) (hD := hD) (hS := hS) (hl := lv_sub hl [0, 1, 2, 3] rfl) (J := ⟨(fun j g0 => fr11 j g0), q10, ⟨by omega, by omega, fun w hw => if h9 : w = f k then (by rw [h9, eq_s1 j3 rfl]; exact pk_us) else (by rw [pk_un h9, eq_s0 j3 (Ne.symm h9)]; exact j5 w hw)⟩⟩) (hk9 := rfl)
    · skip
      have d1 := nleN c6
      refine lv_aload_n hx hb dM_counted_9 rfl (lv_at hl 1 rfl) ?_
      refine va_get (D := D) (ci := 3) (v := .ref (ad 37)) (C := RM) (T := TM) (N := 9) hx hb hA9 inM hown hK hP 34 (wx_at (by omega) ((fr2 34 (by omega)).trans h0)) rfl 3 (by decide) (hA9 _ mfM_20) (fun _ h9 => h9) rfl dM_counted_10 ?_
      refine lv_iload_n hx hb dM_counted_13 rfl (lv_at hl 0 rfl) ?_
      refine lv_iconst (v := nI 0) hx hb dM_counted_14 (by decide +kernel) ?_
      refine va_iast hx hb hK hP hD hS 37 0 (wx_at (by omega) q1) rfl (inN) dM_counted_15 (fun H locs hP hD hS => ?_)
      rw [clN (a := i)] at hP hD
      obtain ⟨ce1, hce1⟩ : ∃ z9, z9 = va_up cl 37 (.inl (cI, 512, .inl (upd g1 i (nI 0)))) := ⟨_, rfl⟩
      rw [wx_set (by omega), ← hce1] at hP hD
      have q12 : ce1 34 = .inr (3, [.int (th), .ref (ad 35), .ref (ad 36), .ref (ad 37), .ref (ad 38), .ref (ad 39), .int (nI rs), .int (nI bu), .int (nI tl)]) := by rw [hce1, va_up_ne _ _ (by omega)]; exact ((fr2 34 (by omega)).trans h0)
      have q13 : ce1 36 = .inl (cI, 4000, .inl mt) := by rw [hce1, va_up_ne _ _ (by omega)]; exact ((fr2 36 (by omega)).trans h2)
      have q14 : ce1 37 = .inl (cI, 512, .inl (upd g1 i (nI 0))) := by rw [hce1, va_up_self]
      have fr15 : ∀ j, j ≠ 37 → ce1 j = ce j := fun j h0 => by rw [hce1, va_up_ne _ _ h0]; exact fr2 j h0
      refine lv_iinc (v := nI (i + 1)) (lv' := [(3, .int (nI (i + 1))), (0, .ref (ad 34)), (1, .int (nI u)), (2, .int (nI v))]) hx hb dM_counted_16 hl (k := 0) rfl (nI_1 i) (by decide) rfl (fun ls hl => ?_)
      refine lv_goto (tgt := 2) hx hb dM_counted_19 (by decide) ?_
      exact ih _ (by omega) (ls := ls) (cl := ce1) (H := H) (locs := locs) (i := i + 1) (g1 := upd g1 i (nI 0)) (hP := hP) (hD := hD) (hS := hS) (hl := lv_sub hl [0, 1, 2, 3] rfl) (J := ⟨(fun j g0 => fr15 j g0), q14, ⟨by omega, fun j hj => if h9 : j = i then (by rw [h9]; exact pk_us) else (by rw [pk_un h9]; exact j2 j (by omega))⟩⟩) (hk9 := rfl)

set_option maxHeartbeats 4000000 in
set_option maxRecDepth 100000 in
theorem c_M_often (l : Launch) (D : va_G) (cI cO cJ : ClassId) (N : Nat) (ad : Nat → Nat) (ce : Nat → va_E) (sz : Nat) (hN : 40 ≤ N) (th : Int32) (rs bu tl : Nat) (h0 : ce 34 = .inr (3, [.int (th), .ref (ad 35), .ref (ad 36), .ref (ad 37), .ref (ad 38), .ref (ad 39), .int (nI rs), .int (nI bu), .int (nI tl)])) (mt : Nat → Int32) (h2 : ce 36 = .inl (cI, 4000, .inl mt)) (f : Nat → Nat) (hmt : ∀ i, i < bu → mt i = nI (f i)) (hf : ∀ i, i < bu → f i < 512) (hbu : bu ≤ 4000) (x a b : Int32) : Met l yM_often (.code yM_often bM_often 6 (some .int) :: WA) ({ frames := 2, cells := 0, slots := 0, locals := 45 }) (PM D (TY cI cO cJ) N ad ce sz [.ref (ad 34), .int (x), .int (a), .int (b)]) (va_Qi (fun (r : Int32) (ce1 : Nat → va_E) => (∀ j, j ≠ 34 → ce1 j = ce j) ∧ ((∃ y u v, y < 512 ∧ u ≤ v ∧ v ≤ bu ∧ x = nI y ∧ a = nI u ∧ b = nI v ∧ (r = nI (eq f y u v)) ∧ ce1 34 = .inr (3, [.int (nI 0), .ref (ad 35), .ref (ad 36), .ref (ad 37), .ref (ad 38), .ref (ad 39), .int (nI rs), .int (nI bu), .int (nI tl)])) ∨ (¬ QA 512 x a b bu ∧ r = nI 0 ∧ ce1 34 = .inr (3, [.int (nI 1), .ref (ad 35), .ref (ad 36), .ref (ad 37), .ref (ad 38), .ref (ad 39), .int (nI rs), .int (nI bu), .int (nI tl)])))) (BW D (TY cI cO cJ) N ad (AW N ad sz)) (AW N ad sz)) 0 0 (AW N ad sz) := by
  refine Met.ofW (cc := bM_often) (maxL := 6) (ret := (some .int)) (by decide) rfl ?_
  intro p e s m args below meth c s₁ B hml hv
  obtain ⟨rfl, hsz, hP, hK, hD0⟩ := hv
  have hx := B.exec
  have hb := B.bytes
  have hr := B.returns
  have hA9 : ∀ w ∈ WA, w.before _ s = true := fun w h => atoms_spec (ws := .code yM_often bM_often 6 (some .int) :: WA) B.pre w (List.mem_cons_of_mem _ h)
  have hown : s.vm.findClass RM = some m.cls := findClass_of_methodNamed B.named
  have hlocks := B.notSynchronized
  subst hsz
  have hD := aw_D (sz := s.heap.size) hD0
  generalize hAe : AW N ad s.heap.size = A at hD ⊢
  have hA : ∀ q, s.heap.size ≤ q → A q := fun q h => by rw [← hAe]; exact Or.inr h
  clear hAe hD0
  have hl := lv_entry ([.ref (ad 34), .int (x), .int (a), .int (b)]) (n := 6) (Nat.le_of_ble_eq_true rfl)
  rw [lg_entry_eq]
  generalize (lg_sl ([.ref (ad 34), .int (x), .int (a), .int (b)]) ++ List.replicate (6 - (lg_sl ([.ref (ad 34), .int (x), .int (a), .int (b)])).length) Slot.unset).toArray = ls at hl ⊢
  have hl : lv_has ls 6 [(0, .ref (ad 34)), (1, .int (x)), (2, .int (a)), (3, .int (b))] := hl
  refine st0 (A := A) (fun H locs hS hH => ?_)
  rw [← hH] at hP
  clear hH
  refine lv_aload_n hx hb dM_often_0 rfl (lv_at hl 0 rfl) ?_
  refine lv_iload_n hx hb dM_often_1 rfl (lv_at hl 2 rfl) ?_
  refine lv_iload_n hx hb dM_often_2 rfl (lv_at hl 3 rfl) ?_
  refine lv_iload_n hx hb dM_often_3 rfl (lv_at hl 1 rfl) ?_
  refine lv_if_lt (tgt := 14) hx hb dM_often_4 (by decide) (fun c4 => ?_) (fun c4 => ?_)
  · skip
    refine lv_iconst (v := nI (bN true)) hx hb dM_often_14 (by decide +kernel) ?_
    refine lv_goto (tgt := 19) hx hb dM_often_15 (by decide) ?_
    refine cvi (va_runV (As := [.int (a), .int (b), .int (nI (bN true))]) (rest := []) ⟨hx, hb, hml, hown, hA9⟩ (c_M_noPart l D cI cO cJ N ad ce H.size hN (th) rs bu tl h0 hbu (a) (b) true) (cwV 3 hA9 (gV mlM_42 miM_noPart msM_noPart mn_M mkM_noPart) rfl rfl rfl (by decide +kernel) ⟨Nat.le_of_ble_eq_true rfl, Nat.le_of_ble_eq_true rfl⟩) ⟨PM_bl, wx_recv hK hP (by omega) h0 rfl, PM_mk hK hP hD⟩ rfl rfl hl.1 rfl (lv_room (Nat.le_of_ble_eq_true rfl)) dM_often_19 ⟨Nat.le_of_ble_eq_true rfl, Nat.le_of_ble_eq_true rfl⟩) hS hD hA (fun r1 ce1 H locs hpost hP hD hS => ?_)
    obtain ⟨nf, ⟨pa, hm, rfl, nz⟩ | ⟨np, rfl, nz⟩⟩ := hpost
    · skip
      exact absurd hm (by decide)
    · skip
      have q2 : ce1 36 = .inl (cI, 4000, .inl mt) := (nf 36 (by omega)).trans h2
      have fr3 : ∀ j, j ≠ 34 → ce1 j = ce j := fun j g0 => (nf j g0)
      have no : ¬ QA 512 x a b bu := qa_1 (by omega) c4
      refine lv_if_eq (tgt := 27) hx hb dM_often_22 (by decide) (fun c22 => ?_) (fun c22 => ?_)
      · skip
        exact absurd c22 (by decide +kernel)
      · skip
        refine lv_iconst (v := nI 0) hx hb dM_often_25 (by decide +kernel) ?_
        exact W.iret (v := (nI 0)) hx hb hr (fun t ht hW => ⟨⟨(nI 0), ce1, rfl, ⟨(fun j g0 => fr3 j g0), Or.inr ⟨no, rfl, nz⟩⟩, by rw [ht]; exact hP, va_K.moved hW.alike hK, hD⟩, hS.F ht⟩) hS.2.2 dM_often_26
  · skip
    refine lv_iload_n hx hb dM_often_7 rfl (lv_at hl 1 rfl) ?_
    refine lv_sipush (v := nI 511) hx hb dM_often_8 (by decide +kernel) ?_
    refine lv_icmp_le (tgt := 18) hx hb dM_often_11 (by decide) (fun c11 => ?_) (fun c11 => ?_)
    · skip
      refine lv_iconst (v := nI (bN false)) hx hb dM_often_18 (by decide +kernel) ?_
      refine cvi (va_runV (As := [.int (a), .int (b), .int (nI (bN false))]) (rest := []) ⟨hx, hb, hml, hown, hA9⟩ (c_M_noPart l D cI cO cJ N ad ce H.size hN (th) rs bu tl h0 hbu (a) (b) false) (cwV 3 hA9 (gV mlM_42 miM_noPart msM_noPart mn_M mkM_noPart) rfl rfl rfl (by decide +kernel) ⟨Nat.le_of_ble_eq_true rfl, Nat.le_of_ble_eq_true rfl⟩) ⟨PM_bl, wx_recv hK hP (by omega) h0 rfl, PM_mk hK hP hD⟩ rfl rfl hl.1 rfl (lv_room (Nat.le_of_ble_eq_true rfl)) dM_often_19 ⟨Nat.le_of_ble_eq_true rfl, Nat.le_of_ble_eq_true rfl⟩) hS hD hA (fun r4 ce1 H locs hpost hP hD hS => ?_)
      obtain ⟨nf, ⟨pa, hm, rfl, nz⟩ | ⟨np, rfl, nz⟩⟩ := hpost
      · skip
        have q5 : ce1 36 = .inl (cI, 4000, .inl mt) := (nf 36 (by omega)).trans h2
        have fr6 : ∀ j, j ≠ 34 → ce1 j = ce j := fun j g0 => (nf j g0)
        obtain ⟨y, hy, rfl⟩ := rg_mk c4 c11
        obtain ⟨u, v, huv, hv, rfl, rfl⟩ := pa
        refine lv_if_eq (tgt := 27) hx hb dM_often_22 (by decide) (fun c22 => ?_) (fun c22 => ?_)
        · skip
          refine lv_iconst (v := nI 0) hx hb dM_often_27 (by decide +kernel) ?_
          refine lv_istore (lv' := [(4, .int (nI 0)), (0, .ref (ad 34)), (1, .int (nI y)), (2, .int (nI u)), (3, .int (nI v))]) hx hb dM_often_28 hl (by decide) rfl (fun ls hl => ?_)
          refine lv_iload_n hx hb dM_often_30 rfl (lv_at hl 3 rfl) ?_
          refine lv_istore (lv' := [(5, .int (nI u)), (4, .int (nI 0)), (0, .ref (ad 34)), (1, .int (nI y)), (2, .int (nI u)), (3, .int (nI v))]) hx hb dM_often_31 hl (by decide) rfl (fun ls hl => ?_)
          obtain ⟨k, hk0⟩ : ∃ z : Nat, (u) = z := ⟨_, rfl⟩
          replace hl : lv_has ls 6 [(5, .int (nI k)), (4, .int (nI (eq f y u k))), (0, .ref (ad 34)), (1, .int (nI y)), (2, .int (nI u)), (3, .int (nI v))] := by subst hk0; rw [show eq f y u u = 0 from ct_0 _ _]; exact lv_sub hl [0, 1, 2, 3, 4, 5] rfl
          have J : u ≤ k ∧ k ≤ v := by subst hk0; exact ⟨Nat.le_refl u, huv⟩
          clear hk0
          obtain ⟨k9, hk9⟩ : ∃ z9 : Nat, z9 = v - k := ⟨_, rfl⟩
          induction k9 using Nat.strongRecOn generalizing k ls with
          | ind k9 ih =>
            obtain ⟨j1, j2⟩ := J
            refine lv_iload hx hb dM_often_33 (lv_at hl 0 rfl) ?_
            refine lv_iload_n hx hb dM_often_35 rfl (lv_at hl 5 rfl) ?_
            refine lv_icmp_ge (tgt := 59) hx hb dM_often_36 (by decide) (fun c36 => ?_) (fun c36 => ?_)
            · skip
              have d2 := leN c36
              have hkv : k = v := by omega
              refine lv_iload hx hb dM_often_59 (lv_at hl 1 rfl) ?_
              exact W.iret (v := (nI (eq f y u k))) hx hb hr (fun t ht hW => ⟨⟨(nI (eq f y u k)), ce1, rfl, ⟨(fun j g0 => fr6 j g0), Or.inl ⟨y, u, v, by omega, huv, hv, rfl, rfl, rfl, by rw [hkv], nz⟩⟩, by rw [ht]; exact hP, va_K.moved hW.alike hK, hD⟩, hS.F ht⟩) hS.2.2 dM_often_61
            · skip
              have d2 := nleN c36
              have hfk := hf k (by omega)
              refine lv_aload_n hx hb dM_often_39 rfl (lv_at hl 2 rfl) ?_
              refine va_get (D := D) (ci := 3) (v := .ref (ad 36)) (C := RM) (T := TM) (N := 9) hx hb hA9 inM hown hK hP 34 (wx_at (by omega) nz) rfl 2 (by decide) (hA9 _ mfM_17) (fun _ h9 => h9) rfl dM_often_40 ?_
              refine lv_iload hx hb dM_often_43 (lv_at hl 0 rfl) ?_
              refine va_iald hx hb hK hP 36 0 (wx_at (by omega) q5) rfl (inN) dM_often_45 ?_
              refine lv_topi (fun z7 ez7 => ?_)
              obtain rfl : z7 = nI (f k) := by rw [ez7, clN]; exact hmt k (by omega)
              refine lv_iload_n hx hb dM_often_46 rfl (lv_at hl 3 rfl) ?_
              refine lv_icmp_ne (tgt := 53) hx hb dM_often_47 (by decide) (fun c47 => ?_) (fun c47 => ?_)
              · skip
                have hne := neN c47
                rw [← eq_s0 j1 hne] at hl
                refine lv_iinc (v := nI (k + 1)) (lv' := [(5, .int (nI (k + 1))), (4, .int (nI (eq f y u (k + 1)))), (0, .ref (ad 34)), (1, .int (nI y)), (2, .int (nI u)), (3, .int (nI v))]) hx hb dM_often_53 hl (k := 0) rfl (nI_1 k) (by decide) rfl (fun ls hl => ?_)
                refine lv_goto (tgt := 33) hx hb dM_often_56 (by decide) ?_
                exact ih _ (by omega) (ls := ls) (k := k + 1) (lv_sub hl [0, 1, 2, 3, 4, 5] rfl) (⟨by omega, by omega⟩) rfl
              · skip
                have hne := eqN c47
                refine lv_iinc (v := nI (eq f y u (k + 1))) (lv' := [(4, .int (nI (eq f y u (k + 1)))), (5, .int (nI k)), (0, .ref (ad 34)), (1, .int (nI y)), (2, .int (nI u)), (3, .int (nI v))]) hx hb dM_often_50 hl (k := 1) rfl ((nI_1 _).trans (congrArg nI (eq_s1 j1 hne).symm)) (by decide) rfl (fun ls hl => ?_)
                refine lv_iinc (v := nI (k + 1)) (lv' := [(5, .int (nI (k + 1))), (4, .int (nI (eq f y u (k + 1)))), (0, .ref (ad 34)), (1, .int (nI y)), (2, .int (nI u)), (3, .int (nI v))]) hx hb dM_often_53 hl (k := 1) rfl (nI_1 k) (by decide) rfl (fun ls hl => ?_)
                refine lv_goto (tgt := 33) hx hb dM_often_56 (by decide) ?_
                exact ih _ (by omega) (ls := ls) (k := k + 1) (lv_sub hl [0, 1, 2, 3, 4, 5] rfl) (⟨by omega, by omega⟩) rfl
        · skip
          exact absurd (show nI (bN false) = 0 from nI_0) c22
      · skip
        have q8 : ce1 36 = .inl (cI, 4000, .inl mt) := (nf 36 (by omega)).trans h2
        have fr9 : ∀ j, j ≠ 34 → ce1 j = ce j := fun j g0 => (nf j g0)
        have no : ¬ QA 512 x a b bu := fun h => np ⟨qa_p h, rfl⟩
        refine lv_if_eq (tgt := 27) hx hb dM_often_22 (by decide) (fun c22 => ?_) (fun c22 => ?_)
        · skip
          exact absurd c22 (by decide +kernel)
        · skip
          refine lv_iconst (v := nI 0) hx hb dM_often_25 (by decide +kernel) ?_
          exact W.iret (v := (nI 0)) hx hb hr (fun t ht hW => ⟨⟨(nI 0), ce1, rfl, ⟨(fun j g0 => fr9 j g0), Or.inr ⟨no, rfl, nz⟩⟩, by rw [ht]; exact hP, va_K.moved hW.alike hK, hD⟩, hS.F ht⟩) hS.2.2 dM_often_26
    · skip
      refine lv_iconst (v := nI (bN true)) hx hb dM_often_14 (by decide +kernel) ?_
      refine lv_goto (tgt := 19) hx hb dM_often_15 (by decide) ?_
      refine cvi (va_runV (As := [.int (a), .int (b), .int (nI (bN true))]) (rest := []) ⟨hx, hb, hml, hown, hA9⟩ (c_M_noPart l D cI cO cJ N ad ce H.size hN (th) rs bu tl h0 hbu (a) (b) true) (cwV 3 hA9 (gV mlM_42 miM_noPart msM_noPart mn_M mkM_noPart) rfl rfl rfl (by decide +kernel) ⟨Nat.le_of_ble_eq_true rfl, Nat.le_of_ble_eq_true rfl⟩) ⟨PM_bl, wx_recv hK hP (by omega) h0 rfl, PM_mk hK hP hD⟩ rfl rfl hl.1 rfl (lv_room (Nat.le_of_ble_eq_true rfl)) dM_often_19 ⟨Nat.le_of_ble_eq_true rfl, Nat.le_of_ble_eq_true rfl⟩) hS hD hA (fun r10 ce1 H locs hpost hP hD hS => ?_)
      obtain ⟨nf, ⟨pa, hm, rfl, nz⟩ | ⟨np, rfl, nz⟩⟩ := hpost
      · skip
        exact absurd hm (by decide)
      · skip
        have q11 : ce1 36 = .inl (cI, 4000, .inl mt) := (nf 36 (by omega)).trans h2
        have fr12 : ∀ j, j ≠ 34 → ce1 j = ce j := fun j g0 => (nf j g0)
        have no : ¬ QA 512 x a b bu := qa_2 (g := 511) rfl (by omega) (nle_lt c11)
        refine lv_if_eq (tgt := 27) hx hb dM_often_22 (by decide) (fun c22 => ?_) (fun c22 => ?_)
        · skip
          exact absurd c22 (by decide +kernel)
        · skip
          refine lv_iconst (v := nI 0) hx hb dM_often_25 (by decide +kernel) ?_
          exact W.iret (v := (nI 0)) hx hb hr (fun t ht hW => ⟨⟨(nI 0), ce1, rfl, ⟨(fun j g0 => fr12 j g0), Or.inr ⟨no, rfl, nz⟩⟩, by rw [ht]; exact hP, va_K.moved hW.alike hK, hD⟩, hS.F ht⟩) hS.2.2 dM_often_26

set_option maxHeartbeats 4000000 in
set_option maxRecDepth 100000 in
theorem c_M_below (l : Launch) (D : va_G) (cI cO cJ : ClassId) (N : Nat) (ad : Nat → Nat) (ce : Nat → va_E) (sz : Nat) (hN : 40 ≤ N) (th : Int32) (rs bu tl : Nat) (h0 : ce 34 = .inr (3, [.int (th), .ref (ad 35), .ref (ad 36), .ref (ad 37), .ref (ad 38), .ref (ad 39), .int (nI rs), .int (nI bu), .int (nI tl)])) (mt : Nat → Int32) (h2 : ce 36 = .inl (cI, 4000, .inl mt)) (f : Nat → Nat) (hmt : ∀ i, i < bu → mt i = nI (f i)) (hf : ∀ i, i < bu → f i < 512) (hbu : bu ≤ 4000) (x a b : Int32) : Met l yM_below (.code yM_below bM_below 6 (some .int) :: WA) ({ frames := 2, cells := 0, slots := 0, locals := 45 }) (PM D (TY cI cO cJ) N ad ce sz [.ref (ad 34), .int (x), .int (a), .int (b)]) (va_Qi (fun (r : Int32) (ce1 : Nat → va_E) => (∀ j, j ≠ 34 → ce1 j = ce j) ∧ ((∃ y u v, y < 513 ∧ u ≤ v ∧ v ≤ bu ∧ x = nI y ∧ a = nI u ∧ b = nI v ∧ (r = nI (lq f y u v)) ∧ ce1 34 = .inr (3, [.int (nI 0), .ref (ad 35), .ref (ad 36), .ref (ad 37), .ref (ad 38), .ref (ad 39), .int (nI rs), .int (nI bu), .int (nI tl)])) ∨ (¬ QA 513 x a b bu ∧ r = nI 0 ∧ ce1 34 = .inr (3, [.int (nI 1), .ref (ad 35), .ref (ad 36), .ref (ad 37), .ref (ad 38), .ref (ad 39), .int (nI rs), .int (nI bu), .int (nI tl)])))) (BW D (TY cI cO cJ) N ad (AW N ad sz)) (AW N ad sz)) 0 0 (AW N ad sz) := by
  refine Met.ofW (cc := bM_below) (maxL := 6) (ret := (some .int)) (by decide) rfl ?_
  intro p e s m args below meth c s₁ B hml hv
  obtain ⟨rfl, hsz, hP, hK, hD0⟩ := hv
  have hx := B.exec
  have hb := B.bytes
  have hr := B.returns
  have hA9 : ∀ w ∈ WA, w.before _ s = true := fun w h => atoms_spec (ws := .code yM_below bM_below 6 (some .int) :: WA) B.pre w (List.mem_cons_of_mem _ h)
  have hown : s.vm.findClass RM = some m.cls := findClass_of_methodNamed B.named
  have hlocks := B.notSynchronized
  subst hsz
  have hD := aw_D (sz := s.heap.size) hD0
  generalize hAe : AW N ad s.heap.size = A at hD ⊢
  have hA : ∀ q, s.heap.size ≤ q → A q := fun q h => by rw [← hAe]; exact Or.inr h
  clear hAe hD0
  have hl := lv_entry ([.ref (ad 34), .int (x), .int (a), .int (b)]) (n := 6) (Nat.le_of_ble_eq_true rfl)
  rw [lg_entry_eq]
  generalize (lg_sl ([.ref (ad 34), .int (x), .int (a), .int (b)]) ++ List.replicate (6 - (lg_sl ([.ref (ad 34), .int (x), .int (a), .int (b)])).length) Slot.unset).toArray = ls at hl ⊢
  have hl : lv_has ls 6 [(0, .ref (ad 34)), (1, .int (x)), (2, .int (a)), (3, .int (b))] := hl
  refine st0 (A := A) (fun H locs hS hH => ?_)
  rw [← hH] at hP
  clear hH
  refine lv_aload_n hx hb dM_below_0 rfl (lv_at hl 0 rfl) ?_
  refine lv_iload_n hx hb dM_below_1 rfl (lv_at hl 2 rfl) ?_
  refine lv_iload_n hx hb dM_below_2 rfl (lv_at hl 3 rfl) ?_
  refine lv_iload_n hx hb dM_below_3 rfl (lv_at hl 1 rfl) ?_
  refine lv_if_lt (tgt := 14) hx hb dM_below_4 (by decide) (fun c4 => ?_) (fun c4 => ?_)
  · skip
    refine lv_iconst (v := nI (bN true)) hx hb dM_below_14 (by decide +kernel) ?_
    refine lv_goto (tgt := 19) hx hb dM_below_15 (by decide) ?_
    refine cvi (va_runV (As := [.int (a), .int (b), .int (nI (bN true))]) (rest := []) ⟨hx, hb, hml, hown, hA9⟩ (c_M_noPart l D cI cO cJ N ad ce H.size hN (th) rs bu tl h0 hbu (a) (b) true) (cwV 3 hA9 (gV mlM_42 miM_noPart msM_noPart mn_M mkM_noPart) rfl rfl rfl (by decide +kernel) ⟨Nat.le_of_ble_eq_true rfl, Nat.le_of_ble_eq_true rfl⟩) ⟨PM_bl, wx_recv hK hP (by omega) h0 rfl, PM_mk hK hP hD⟩ rfl rfl hl.1 rfl (lv_room (Nat.le_of_ble_eq_true rfl)) dM_below_19 ⟨Nat.le_of_ble_eq_true rfl, Nat.le_of_ble_eq_true rfl⟩) hS hD hA (fun r1 ce1 H locs hpost hP hD hS => ?_)
    obtain ⟨nf, ⟨pa, hm, rfl, nz⟩ | ⟨np, rfl, nz⟩⟩ := hpost
    · skip
      exact absurd hm (by decide)
    · skip
      have q2 : ce1 36 = .inl (cI, 4000, .inl mt) := (nf 36 (by omega)).trans h2
      have fr3 : ∀ j, j ≠ 34 → ce1 j = ce j := fun j g0 => (nf j g0)
      have no : ¬ QA 513 x a b bu := qa_1 (by omega) c4
      refine lv_if_eq (tgt := 27) hx hb dM_below_22 (by decide) (fun c22 => ?_) (fun c22 => ?_)
      · skip
        exact absurd c22 (by decide +kernel)
      · skip
        refine lv_iconst (v := nI 0) hx hb dM_below_25 (by decide +kernel) ?_
        exact W.iret (v := (nI 0)) hx hb hr (fun t ht hW => ⟨⟨(nI 0), ce1, rfl, ⟨(fun j g0 => fr3 j g0), Or.inr ⟨no, rfl, nz⟩⟩, by rw [ht]; exact hP, va_K.moved hW.alike hK, hD⟩, hS.F ht⟩) hS.2.2 dM_below_26
  · skip
    refine lv_iload_n hx hb dM_below_7 rfl (lv_at hl 1 rfl) ?_
    refine lv_sipush (v := nI 512) hx hb dM_below_8 (by decide +kernel) ?_
    refine lv_icmp_le (tgt := 18) hx hb dM_below_11 (by decide) (fun c11 => ?_) (fun c11 => ?_)
    · skip
      refine lv_iconst (v := nI (bN false)) hx hb dM_below_18 (by decide +kernel) ?_
      refine cvi (va_runV (As := [.int (a), .int (b), .int (nI (bN false))]) (rest := []) ⟨hx, hb, hml, hown, hA9⟩ (c_M_noPart l D cI cO cJ N ad ce H.size hN (th) rs bu tl h0 hbu (a) (b) false) (cwV 3 hA9 (gV mlM_42 miM_noPart msM_noPart mn_M mkM_noPart) rfl rfl rfl (by decide +kernel) ⟨Nat.le_of_ble_eq_true rfl, Nat.le_of_ble_eq_true rfl⟩) ⟨PM_bl, wx_recv hK hP (by omega) h0 rfl, PM_mk hK hP hD⟩ rfl rfl hl.1 rfl (lv_room (Nat.le_of_ble_eq_true rfl)) dM_below_19 ⟨Nat.le_of_ble_eq_true rfl, Nat.le_of_ble_eq_true rfl⟩) hS hD hA (fun r4 ce1 H locs hpost hP hD hS => ?_)
      obtain ⟨nf, ⟨pa, hm, rfl, nz⟩ | ⟨np, rfl, nz⟩⟩ := hpost
      · skip
        have q5 : ce1 36 = .inl (cI, 4000, .inl mt) := (nf 36 (by omega)).trans h2
        have fr6 : ∀ j, j ≠ 34 → ce1 j = ce j := fun j g0 => (nf j g0)
        obtain ⟨y, hy, rfl⟩ := rg_mk c4 c11
        obtain ⟨u, v, huv, hv, rfl, rfl⟩ := pa
        refine lv_if_eq (tgt := 27) hx hb dM_below_22 (by decide) (fun c22 => ?_) (fun c22 => ?_)
        · skip
          refine lv_iconst (v := nI 0) hx hb dM_below_27 (by decide +kernel) ?_
          refine lv_istore (lv' := [(4, .int (nI 0)), (0, .ref (ad 34)), (1, .int (nI y)), (2, .int (nI u)), (3, .int (nI v))]) hx hb dM_below_28 hl (by decide) rfl (fun ls hl => ?_)
          refine lv_iload_n hx hb dM_below_30 rfl (lv_at hl 3 rfl) ?_
          refine lv_istore (lv' := [(5, .int (nI u)), (4, .int (nI 0)), (0, .ref (ad 34)), (1, .int (nI y)), (2, .int (nI u)), (3, .int (nI v))]) hx hb dM_below_31 hl (by decide) rfl (fun ls hl => ?_)
          obtain ⟨k, hk0⟩ : ∃ z : Nat, (u) = z := ⟨_, rfl⟩
          replace hl : lv_has ls 6 [(5, .int (nI k)), (4, .int (nI (lq f y u k))), (0, .ref (ad 34)), (1, .int (nI y)), (2, .int (nI u)), (3, .int (nI v))] := by subst hk0; rw [show lq f y u u = 0 from ct_0 _ _]; exact lv_sub hl [0, 1, 2, 3, 4, 5] rfl
          have J : u ≤ k ∧ k ≤ v := by subst hk0; exact ⟨Nat.le_refl u, huv⟩
          clear hk0
          obtain ⟨k9, hk9⟩ : ∃ z9 : Nat, z9 = v - k := ⟨_, rfl⟩
          induction k9 using Nat.strongRecOn generalizing k ls with
          | ind k9 ih =>
            obtain ⟨j1, j2⟩ := J
            refine lv_iload hx hb dM_below_33 (lv_at hl 0 rfl) ?_
            refine lv_iload_n hx hb dM_below_35 rfl (lv_at hl 5 rfl) ?_
            refine lv_icmp_ge (tgt := 59) hx hb dM_below_36 (by decide) (fun c36 => ?_) (fun c36 => ?_)
            · skip
              have d2 := leN c36
              have hkv : k = v := by omega
              refine lv_iload hx hb dM_below_59 (lv_at hl 1 rfl) ?_
              exact W.iret (v := (nI (lq f y u k))) hx hb hr (fun t ht hW => ⟨⟨(nI (lq f y u k)), ce1, rfl, ⟨(fun j g0 => fr6 j g0), Or.inl ⟨y, u, v, by omega, huv, hv, rfl, rfl, rfl, by rw [hkv], nz⟩⟩, by rw [ht]; exact hP, va_K.moved hW.alike hK, hD⟩, hS.F ht⟩) hS.2.2 dM_below_61
            · skip
              have d2 := nleN c36
              have hfk := hf k (by omega)
              refine lv_aload_n hx hb dM_below_39 rfl (lv_at hl 2 rfl) ?_
              refine va_get (D := D) (ci := 3) (v := .ref (ad 36)) (C := RM) (T := TM) (N := 9) hx hb hA9 inM hown hK hP 34 (wx_at (by omega) nz) rfl 2 (by decide) (hA9 _ mfM_17) (fun _ h9 => h9) rfl dM_below_40 ?_
              refine lv_iload hx hb dM_below_43 (lv_at hl 0 rfl) ?_
              refine va_iald hx hb hK hP 36 0 (wx_at (by omega) q5) rfl (inN) dM_below_45 ?_
              refine lv_topi (fun z7 ez7 => ?_)
              obtain rfl : z7 = nI (f k) := by rw [ez7, clN]; exact hmt k (by omega)
              refine lv_iload_n hx hb dM_below_46 rfl (lv_at hl 3 rfl) ?_
              refine lv_icmp_ge (tgt := 53) hx hb dM_below_47 (by decide) (fun c47 => ?_) (fun c47 => ?_)
              · skip
                have hne := leN c47
                rw [← lq_s0 j1 hne] at hl
                refine lv_iinc (v := nI (k + 1)) (lv' := [(5, .int (nI (k + 1))), (4, .int (nI (lq f y u (k + 1)))), (0, .ref (ad 34)), (1, .int (nI y)), (2, .int (nI u)), (3, .int (nI v))]) hx hb dM_below_53 hl (k := 0) rfl (nI_1 k) (by decide) rfl (fun ls hl => ?_)
                refine lv_goto (tgt := 33) hx hb dM_below_56 (by decide) ?_
                exact ih _ (by omega) (ls := ls) (k := k + 1) (lv_sub hl [0, 1, 2, 3, 4, 5] rfl) (⟨by omega, by omega⟩) rfl
              · skip
                have hne := nleN c47
                refine lv_iinc (v := nI (lq f y u (k + 1))) (lv' := [(4, .int (nI (lq f y u (k + 1)))), (5, .int (nI k)), (0, .ref (ad 34)), (1, .int (nI y)), (2, .int (nI u)), (3, .int (nI v))]) hx hb dM_below_50 hl (k := 1) rfl ((nI_1 _).trans (congrArg nI (lq_s1 j1 hne).symm)) (by decide) rfl (fun ls hl => ?_)
                refine lv_iinc (v := nI (k + 1)) (lv' := [(5, .int (nI (k + 1))), (4, .int (nI (lq f y u (k + 1)))), (0, .ref (ad 34)), (1, .int (nI y)), (2, .int (nI u)), (3, .int (nI v))]) hx hb dM_below_53 hl (k := 1) rfl (nI_1 k) (by decide) rfl (fun ls hl => ?_)
                refine lv_goto (tgt := 33) hx hb dM_below_56 (by decide) ?_
                exact ih _ (by omega) (ls := ls) (k := k + 1) (lv_sub hl [0, 1, 2, 3, 4, 5] rfl) (⟨by omega, by omega⟩) rfl
        · skip
          exact absurd (show nI (bN false) = 0 from nI_0) c22
      · skip
        have q8 : ce1 36 = .inl (cI, 4000, .inl mt) := (nf 36 (by omega)).trans h2
        have fr9 : ∀ j, j ≠ 34 → ce1 j = ce j := fun j g0 => (nf j g0)
        have no : ¬ QA 513 x a b bu := fun h => np ⟨qa_p h, rfl⟩
        refine lv_if_eq (tgt := 27) hx hb dM_below_22 (by decide) (fun c22 => ?_) (fun c22 => ?_)
        · skip
          exact absurd c22 (by decide +kernel)
        · skip
          refine lv_iconst (v := nI 0) hx hb dM_below_25 (by decide +kernel) ?_
          exact W.iret (v := (nI 0)) hx hb hr (fun t ht hW => ⟨⟨(nI 0), ce1, rfl, ⟨(fun j g0 => fr9 j g0), Or.inr ⟨no, rfl, nz⟩⟩, by rw [ht]; exact hP, va_K.moved hW.alike hK, hD⟩, hS.F ht⟩) hS.2.2 dM_below_26
    · skip
      refine lv_iconst (v := nI (bN true)) hx hb dM_below_14 (by decide +kernel) ?_
      refine lv_goto (tgt := 19) hx hb dM_below_15 (by decide) ?_
      refine cvi (va_runV (As := [.int (a), .int (b), .int (nI (bN true))]) (rest := []) ⟨hx, hb, hml, hown, hA9⟩ (c_M_noPart l D cI cO cJ N ad ce H.size hN (th) rs bu tl h0 hbu (a) (b) true) (cwV 3 hA9 (gV mlM_42 miM_noPart msM_noPart mn_M mkM_noPart) rfl rfl rfl (by decide +kernel) ⟨Nat.le_of_ble_eq_true rfl, Nat.le_of_ble_eq_true rfl⟩) ⟨PM_bl, wx_recv hK hP (by omega) h0 rfl, PM_mk hK hP hD⟩ rfl rfl hl.1 rfl (lv_room (Nat.le_of_ble_eq_true rfl)) dM_below_19 ⟨Nat.le_of_ble_eq_true rfl, Nat.le_of_ble_eq_true rfl⟩) hS hD hA (fun r10 ce1 H locs hpost hP hD hS => ?_)
      obtain ⟨nf, ⟨pa, hm, rfl, nz⟩ | ⟨np, rfl, nz⟩⟩ := hpost
      · skip
        exact absurd hm (by decide)
      · skip
        have q11 : ce1 36 = .inl (cI, 4000, .inl mt) := (nf 36 (by omega)).trans h2
        have fr12 : ∀ j, j ≠ 34 → ce1 j = ce j := fun j g0 => (nf j g0)
        have no : ¬ QA 513 x a b bu := qa_2 (g := 512) rfl (by omega) (nle_lt c11)
        refine lv_if_eq (tgt := 27) hx hb dM_below_22 (by decide) (fun c22 => ?_) (fun c22 => ?_)
        · skip
          exact absurd c22 (by decide +kernel)
        · skip
          refine lv_iconst (v := nI 0) hx hb dM_below_25 (by decide +kernel) ?_
          exact W.iret (v := (nI 0)) hx hb hr (fun t ht hW => ⟨⟨(nI 0), ce1, rfl, ⟨(fun j g0 => fr12 j g0), Or.inr ⟨no, rfl, nz⟩⟩, by rw [ht]; exact hP, va_K.moved hW.alike hK, hD⟩, hS.F ht⟩) hS.2.2 dM_below_26

set_option maxHeartbeats 4000000 in
set_option maxRecDepth 100000 in
theorem c_M_before (l : Launch) (D : va_G) (cI cO cJ : ClassId) (N : Nat) (ad : Nat → Nat) (ce : Nat → va_E) (sz : Nat) (hN : 40 ≤ N) (th : Int32) (rs bu tl : Nat) (h0 : ce 34 = .inr (3, [.int (th), .ref (ad 35), .ref (ad 36), .ref (ad 37), .ref (ad 38), .ref (ad 39), .int (nI rs), .int (nI bu), .int (nI tl)])) (mt : Nat → Int32) (h2 : ce 36 = .inl (cI, 4000, .inl mt)) (f : Nat → Nat) (hmt : ∀ i, i < bu → mt i = nI (f i)) (hf : ∀ i, i < bu → f i < 512) (hbu : bu ≤ 4000) (x a b : Int32) : Met l yM_before (.code yM_before bM_before 6 (some .int) :: WA) ({ frames := 2, cells := 0, slots := 0, locals := 45 }) (PM D (TY cI cO cJ) N ad ce sz [.ref (ad 34), .int (x), .int (a), .int (b)]) (va_Qi (fun (r : Int32) (ce1 : Nat → va_E) => (∀ j, j ≠ 34 → ce1 j = ce j) ∧ ((∃ y u v, y < 512 ∧ u ≤ v ∧ v ≤ bu ∧ x = nI y ∧ a = nI u ∧ b = nI v ∧ (∃ o, r = bI o ∧ BM f y u v o) ∧ ce1 34 = .inr (3, [.int (nI 0), .ref (ad 35), .ref (ad 36), .ref (ad 37), .ref (ad 38), .ref (ad 39), .int (nI rs), .int (nI bu), .int (nI tl)])) ∨ (¬ QA 512 x a b bu ∧ r = nI 0 ∧ ce1 34 = .inr (3, [.int (nI 1), .ref (ad 35), .ref (ad 36), .ref (ad 37), .ref (ad 38), .ref (ad 39), .int (nI rs), .int (nI bu), .int (nI tl)])))) (BW D (TY cI cO cJ) N ad (AW N ad sz)) (AW N ad sz)) 0 0 (AW N ad sz) := by
  refine Met.ofW (cc := bM_before) (maxL := 6) (ret := (some .int)) (by decide) rfl ?_
  intro p e s m args below meth c s₁ B hml hv
  obtain ⟨rfl, hsz, hP, hK, hD0⟩ := hv
  have hx := B.exec
  have hb := B.bytes
  have hr := B.returns
  have hA9 : ∀ w ∈ WA, w.before _ s = true := fun w h => atoms_spec (ws := .code yM_before bM_before 6 (some .int) :: WA) B.pre w (List.mem_cons_of_mem _ h)
  have hown : s.vm.findClass RM = some m.cls := findClass_of_methodNamed B.named
  have hlocks := B.notSynchronized
  subst hsz
  have hD := aw_D (sz := s.heap.size) hD0
  generalize hAe : AW N ad s.heap.size = A at hD ⊢
  have hA : ∀ q, s.heap.size ≤ q → A q := fun q h => by rw [← hAe]; exact Or.inr h
  clear hAe hD0
  have hl := lv_entry ([.ref (ad 34), .int (x), .int (a), .int (b)]) (n := 6) (Nat.le_of_ble_eq_true rfl)
  rw [lg_entry_eq]
  generalize (lg_sl ([.ref (ad 34), .int (x), .int (a), .int (b)]) ++ List.replicate (6 - (lg_sl ([.ref (ad 34), .int (x), .int (a), .int (b)])).length) Slot.unset).toArray = ls at hl ⊢
  have hl : lv_has ls 6 [(0, .ref (ad 34)), (1, .int (x)), (2, .int (a)), (3, .int (b))] := hl
  refine st0 (A := A) (fun H locs hS hH => ?_)
  rw [← hH] at hP
  clear hH
  refine lv_aload_n hx hb dM_before_0 rfl (lv_at hl 0 rfl) ?_
  refine lv_iload_n hx hb dM_before_1 rfl (lv_at hl 2 rfl) ?_
  refine lv_iload_n hx hb dM_before_2 rfl (lv_at hl 3 rfl) ?_
  refine lv_iload_n hx hb dM_before_3 rfl (lv_at hl 1 rfl) ?_
  refine lv_if_lt (tgt := 14) hx hb dM_before_4 (by decide) (fun c4 => ?_) (fun c4 => ?_)
  · skip
    refine lv_iconst (v := nI (bN true)) hx hb dM_before_14 (by decide +kernel) ?_
    refine lv_goto (tgt := 19) hx hb dM_before_15 (by decide) ?_
    refine cvi (va_runV (As := [.int (a), .int (b), .int (nI (bN true))]) (rest := []) ⟨hx, hb, hml, hown, hA9⟩ (c_M_noPart l D cI cO cJ N ad ce H.size hN (th) rs bu tl h0 hbu (a) (b) true) (cwV 3 hA9 (gV mlM_42 miM_noPart msM_noPart mn_M mkM_noPart) rfl rfl rfl (by decide +kernel) ⟨Nat.le_of_ble_eq_true rfl, Nat.le_of_ble_eq_true rfl⟩) ⟨PM_bl, wx_recv hK hP (by omega) h0 rfl, PM_mk hK hP hD⟩ rfl rfl hl.1 rfl (lv_room (Nat.le_of_ble_eq_true rfl)) dM_before_19 ⟨Nat.le_of_ble_eq_true rfl, Nat.le_of_ble_eq_true rfl⟩) hS hD hA (fun r1 ce1 H locs hpost hP hD hS => ?_)
    obtain ⟨nf, ⟨pa, hm, rfl, nz⟩ | ⟨np, rfl, nz⟩⟩ := hpost
    · skip
      exact absurd hm (by decide)
    · skip
      have q2 : ce1 36 = .inl (cI, 4000, .inl mt) := (nf 36 (by omega)).trans h2
      have fr3 : ∀ j, j ≠ 34 → ce1 j = ce j := fun j g0 => (nf j g0)
      have no : ¬ QA 512 x a b bu := qa_1 (by omega) c4
      refine lv_if_eq (tgt := 27) hx hb dM_before_22 (by decide) (fun c22 => ?_) (fun c22 => ?_)
      · skip
        exact absurd c22 (by decide +kernel)
      · skip
        refine lv_iconst (v := nI 0) hx hb dM_before_25 (by decide +kernel) ?_
        exact W.iret (v := (nI 0)) hx hb hr (fun t ht hW => ⟨⟨(nI 0), ce1, rfl, ⟨(fun j g0 => fr3 j g0), Or.inr ⟨no, rfl, nz⟩⟩, by rw [ht]; exact hP, va_K.moved hW.alike hK, hD⟩, hS.F ht⟩) hS.2.2 dM_before_26
  · skip
    refine lv_iload_n hx hb dM_before_7 rfl (lv_at hl 1 rfl) ?_
    refine lv_sipush (v := nI 511) hx hb dM_before_8 (by decide +kernel) ?_
    refine lv_icmp_le (tgt := 18) hx hb dM_before_11 (by decide) (fun c11 => ?_) (fun c11 => ?_)
    · skip
      refine lv_iconst (v := nI (bN false)) hx hb dM_before_18 (by decide +kernel) ?_
      refine cvi (va_runV (As := [.int (a), .int (b), .int (nI (bN false))]) (rest := []) ⟨hx, hb, hml, hown, hA9⟩ (c_M_noPart l D cI cO cJ N ad ce H.size hN (th) rs bu tl h0 hbu (a) (b) false) (cwV 3 hA9 (gV mlM_42 miM_noPart msM_noPart mn_M mkM_noPart) rfl rfl rfl (by decide +kernel) ⟨Nat.le_of_ble_eq_true rfl, Nat.le_of_ble_eq_true rfl⟩) ⟨PM_bl, wx_recv hK hP (by omega) h0 rfl, PM_mk hK hP hD⟩ rfl rfl hl.1 rfl (lv_room (Nat.le_of_ble_eq_true rfl)) dM_before_19 ⟨Nat.le_of_ble_eq_true rfl, Nat.le_of_ble_eq_true rfl⟩) hS hD hA (fun r4 ce1 H locs hpost hP hD hS => ?_)
      obtain ⟨nf, ⟨pa, hm, rfl, nz⟩ | ⟨np, rfl, nz⟩⟩ := hpost
      · skip
        have q5 : ce1 36 = .inl (cI, 4000, .inl mt) := (nf 36 (by omega)).trans h2
        have fr6 : ∀ j, j ≠ 34 → ce1 j = ce j := fun j g0 => (nf j g0)
        obtain ⟨y, hy, rfl⟩ := rg_mk c4 c11
        obtain ⟨u, v, huv, hv, rfl, rfl⟩ := pa
        refine lv_if_eq (tgt := 27) hx hb dM_before_22 (by decide) (fun c22 => ?_) (fun c22 => ?_)
        · skip
          refine lv_iconst (v := bI none) hx hb dM_before_27 (by decide +kernel) ?_
          refine lv_istore (lv' := [(4, .int (bI none)), (0, .ref (ad 34)), (1, .int (nI y)), (2, .int (nI u)), (3, .int (nI v))]) hx hb dM_before_28 hl (by decide) rfl (fun ls hl => ?_)
          refine lv_iload_n hx hb dM_before_30 rfl (lv_at hl 3 rfl) ?_
          refine lv_istore (lv' := [(5, .int (nI u)), (4, .int (bI none)), (0, .ref (ad 34)), (1, .int (nI y)), (2, .int (nI u)), (3, .int (nI v))]) hx hb dM_before_31 hl (by decide) rfl (fun ls hl => ?_)
          obtain ⟨k, hk0⟩ : ∃ z : Nat, (u) = z := ⟨_, rfl⟩
          obtain ⟨o, ho0⟩ : ∃ z : Option Nat, (none) = z := ⟨_, rfl⟩
          replace hl : lv_has ls 6 [(5, .int (nI k)), (4, .int (bI o)), (0, .ref (ad 34)), (1, .int (nI y)), (2, .int (nI u)), (3, .int (nI v))] := by subst hk0 ho0; exact lv_sub hl [0, 1, 2, 3, 4, 5] rfl
          have J : u ≤ k ∧ k ≤ v ∧ BM f y u k o := by subst hk0 ho0; exact ⟨Nat.le_refl u, huv, BM.z⟩
          clear hk0
          clear ho0
          obtain ⟨k9, hk9⟩ : ∃ z9 : Nat, z9 = v - k := ⟨_, rfl⟩
          induction k9 using Nat.strongRecOn generalizing k o ls with
          | ind k9 ih =>
            obtain ⟨j1, j2, j3⟩ := J
            refine lv_iload hx hb dM_before_33 (lv_at hl 0 rfl) ?_
            refine lv_iload_n hx hb dM_before_35 rfl (lv_at hl 5 rfl) ?_
            refine lv_icmp_ge (tgt := 77) hx hb dM_before_36 (by decide) (fun c36 => ?_) (fun c36 => ?_)
            · skip
              have d2 := leN c36
              have hkv : k = v := by omega
              refine lv_iload hx hb dM_before_77 (lv_at hl 1 rfl) ?_
              exact W.iret (v := (bI o)) hx hb hr (fun t ht hW => ⟨⟨(bI o), ce1, rfl, ⟨(fun j g0 => fr6 j g0), Or.inl ⟨y, u, v, by omega, huv, hv, rfl, rfl, rfl, ⟨o, rfl, by rw [← hkv]; exact j3⟩, nz⟩⟩, by rw [ht]; exact hP, va_K.moved hW.alike hK, hD⟩, hS.F ht⟩) hS.2.2 dM_before_79
            · skip
              have d2 := nleN c36
              have hfk := hf k (by omega)
              refine lv_aload_n hx hb dM_before_39 rfl (lv_at hl 2 rfl) ?_
              refine va_get (D := D) (ci := 3) (v := .ref (ad 36)) (C := RM) (T := TM) (N := 9) hx hb hA9 inM hown hK hP 34 (wx_at (by omega) nz) rfl 2 (by decide) (hA9 _ mfM_17) (fun _ h9 => h9) rfl dM_before_40 ?_
              refine lv_iload hx hb dM_before_43 (lv_at hl 0 rfl) ?_
              refine va_iald hx hb hK hP 36 0 (wx_at (by omega) q5) rfl (inN) dM_before_45 ?_
              refine lv_topi (fun z7 ez7 => ?_)
              obtain rfl : z7 = nI (f k) := by rw [ez7, clN]; exact hmt k (by omega)
              refine lv_iload_n hx hb dM_before_46 rfl (lv_at hl 3 rfl) ?_
              refine lv_icmp_gt (tgt := 71) hx hb dM_before_47 (by decide) (fun c47 => ?_) (fun c47 => ?_)
              · skip
                have b1 := ltN c47
                have jn := j3.skip (Or.inl b1)
                refine lv_iinc (v := nI (k + 1)) (lv' := [(5, .int (nI (k + 1))), (4, .int (bI o)), (0, .ref (ad 34)), (1, .int (nI y)), (2, .int (nI u)), (3, .int (nI v))]) hx hb dM_before_71 hl (k := 0) rfl (nI_1 k) (by decide) rfl (fun ls hl => ?_)
                refine lv_goto (tgt := 33) hx hb dM_before_74 (by decide) ?_
                exact ih _ (by omega) (ls := ls) (k := k + 1) (o := o) (lv_sub hl [0, 1, 2, 3, 4, 5] rfl) (⟨by omega, by omega, jn⟩) rfl
              · skip
                refine lv_aload_n hx hb dM_before_50 rfl (lv_at hl 2 rfl) ?_
                refine va_get (D := D) (ci := 3) (v := .ref (ad 36)) (C := RM) (T := TM) (N := 9) hx hb hA9 inM hown hK hP 34 (wx_at (by omega) nz) rfl 2 (by decide) (hA9 _ mfM_17) (fun _ h9 => h9) rfl dM_before_51 ?_
                refine lv_iload hx hb dM_before_54 (lv_at hl 0 rfl) ?_
                refine va_iald hx hb hK hP 36 0 (wx_at (by omega) q5) rfl (inN) dM_before_56 ?_
                refine lv_topi (fun z8 ez8 => ?_)
                obtain rfl : z8 = nI (f k) := by rw [ez8, clN]; exact hmt k (by omega)
                refine lv_iload hx hb dM_before_57 (lv_at hl 1 rfl) ?_
                refine lv_icmp_le (tgt := 71) hx hb dM_before_59 (by decide) (fun c59 => ?_) (fun c59 => ?_)
                · skip
                  have jn : BM f y u (k + 1) o := j3.skip (Or.inr (by
                    cases o with
                    | none => exact absurd c59 (m1_lt (by omega))
                    | some w => exact ⟨w, rfl, leN (a := f k) (b := w) c59 (by omega) (by have := j3.2.1; omega)⟩))
                  refine lv_iinc (v := nI (k + 1)) (lv' := [(5, .int (nI (k + 1))), (4, .int (bI o)), (0, .ref (ad 34)), (1, .int (nI y)), (2, .int (nI u)), (3, .int (nI v))]) hx hb dM_before_71 hl (k := 0) rfl (nI_1 k) (by decide) rfl (fun ls hl => ?_)
                  refine lv_goto (tgt := 33) hx hb dM_before_74 (by decide) ?_
                  exact ih _ (by omega) (ls := ls) (k := k + 1) (o := o) (lv_sub hl [0, 1, 2, 3, 4, 5] rfl) (⟨by omega, by omega, jn⟩) rfl
                · skip
                  have jn : BM f y u (k + 1) (some (f k)) := j3.take j1 (nltN c47) (fun w hw => by
                    subst hw
                    exact nleN (a := f k) (b := w) c59 (by omega) (by have := j3.2.1; omega))
                  refine lv_aload_n hx hb dM_before_62 rfl (lv_at hl 2 rfl) ?_
                  refine va_get (D := D) (ci := 3) (v := .ref (ad 36)) (C := RM) (T := TM) (N := 9) hx hb hA9 inM hown hK hP 34 (wx_at (by omega) nz) rfl 2 (by decide) (hA9 _ mfM_17) (fun _ h9 => h9) rfl dM_before_63 ?_
                  refine lv_iload hx hb dM_before_66 (lv_at hl 0 rfl) ?_
                  refine va_iald hx hb hK hP 36 0 (wx_at (by omega) q5) rfl (inN) dM_before_68 ?_
                  refine lv_topi (fun z9 ez9 => ?_)
                  obtain rfl : z9 = bI (some (f k)) := by rw [ez9, clN]; exact hmt k (by omega)
                  refine lv_istore (lv' := [(4, .int (bI (some (f k)))), (5, .int (nI k)), (0, .ref (ad 34)), (1, .int (nI y)), (2, .int (nI u)), (3, .int (nI v))]) hx hb dM_before_69 hl (by decide) rfl (fun ls hl => ?_)
                  refine lv_iinc (v := nI (k + 1)) (lv' := [(5, .int (nI (k + 1))), (4, .int (bI (some (f k)))), (0, .ref (ad 34)), (1, .int (nI y)), (2, .int (nI u)), (3, .int (nI v))]) hx hb dM_before_71 hl (k := 1) rfl (nI_1 k) (by decide) rfl (fun ls hl => ?_)
                  refine lv_goto (tgt := 33) hx hb dM_before_74 (by decide) ?_
                  exact ih _ (by omega) (ls := ls) (k := k + 1) (o := some (f k)) (lv_sub hl [0, 1, 2, 3, 4, 5] rfl) (⟨by omega, by omega, jn⟩) rfl
        · skip
          exact absurd (show nI (bN false) = 0 from nI_0) c22
      · skip
        have q10 : ce1 36 = .inl (cI, 4000, .inl mt) := (nf 36 (by omega)).trans h2
        have fr11 : ∀ j, j ≠ 34 → ce1 j = ce j := fun j g0 => (nf j g0)
        have no : ¬ QA 512 x a b bu := fun h => np ⟨qa_p h, rfl⟩
        refine lv_if_eq (tgt := 27) hx hb dM_before_22 (by decide) (fun c22 => ?_) (fun c22 => ?_)
        · skip
          exact absurd c22 (by decide +kernel)
        · skip
          refine lv_iconst (v := nI 0) hx hb dM_before_25 (by decide +kernel) ?_
          exact W.iret (v := (nI 0)) hx hb hr (fun t ht hW => ⟨⟨(nI 0), ce1, rfl, ⟨(fun j g0 => fr11 j g0), Or.inr ⟨no, rfl, nz⟩⟩, by rw [ht]; exact hP, va_K.moved hW.alike hK, hD⟩, hS.F ht⟩) hS.2.2 dM_before_26
    · skip
      refine lv_iconst (v := nI (bN true)) hx hb dM_before_14 (by decide +kernel) ?_
      refine lv_goto (tgt := 19) hx hb dM_before_15 (by decide) ?_
      refine cvi (va_runV (As := [.int (a), .int (b), .int (nI (bN true))]) (rest := []) ⟨hx, hb, hml, hown, hA9⟩ (c_M_noPart l D cI cO cJ N ad ce H.size hN (th) rs bu tl h0 hbu (a) (b) true) (cwV 3 hA9 (gV mlM_42 miM_noPart msM_noPart mn_M mkM_noPart) rfl rfl rfl (by decide +kernel) ⟨Nat.le_of_ble_eq_true rfl, Nat.le_of_ble_eq_true rfl⟩) ⟨PM_bl, wx_recv hK hP (by omega) h0 rfl, PM_mk hK hP hD⟩ rfl rfl hl.1 rfl (lv_room (Nat.le_of_ble_eq_true rfl)) dM_before_19 ⟨Nat.le_of_ble_eq_true rfl, Nat.le_of_ble_eq_true rfl⟩) hS hD hA (fun r12 ce1 H locs hpost hP hD hS => ?_)
      obtain ⟨nf, ⟨pa, hm, rfl, nz⟩ | ⟨np, rfl, nz⟩⟩ := hpost
      · skip
        exact absurd hm (by decide)
      · skip
        have q13 : ce1 36 = .inl (cI, 4000, .inl mt) := (nf 36 (by omega)).trans h2
        have fr14 : ∀ j, j ≠ 34 → ce1 j = ce j := fun j g0 => (nf j g0)
        have no : ¬ QA 512 x a b bu := qa_2 (g := 511) rfl (by omega) (nle_lt c11)
        refine lv_if_eq (tgt := 27) hx hb dM_before_22 (by decide) (fun c22 => ?_) (fun c22 => ?_)
        · skip
          exact absurd c22 (by decide +kernel)
        · skip
          refine lv_iconst (v := nI 0) hx hb dM_before_25 (by decide +kernel) ?_
          exact W.iret (v := (nI 0)) hx hb hr (fun t ht hW => ⟨⟨(nI 0), ce1, rfl, ⟨(fun j g0 => fr14 j g0), Or.inr ⟨no, rfl, nz⟩⟩, by rw [ht]; exact hP, va_K.moved hW.alike hK, hD⟩, hS.F ht⟩) hS.2.2 dM_before_26
end
section
set_option maxHeartbeats 4000000 in
set_option maxRecDepth 100000 in
theorem c_M_least (l : Launch) (D : va_G) (cI cO cJ : ClassId) (N : Nat) (ad : Nat → Nat) (ce : Nat → va_E) (sz : Nat) (hN : 40 ≤ N) (th : Int32) (rs bu tl : Nat) (h0 : ce 34 = .inr (3, [.int (th), .ref (ad 35), .ref (ad 36), .ref (ad 37), .ref (ad 38), .ref (ad 39), .int (nI rs), .int (nI bu), .int (nI tl)])) (mt : Nat → Int32) (h2 : ce 36 = .inl (cI, 4000, .inl mt)) (f : Nat → Nat) (hmt : ∀ i, i < bu → mt i = nI (f i)) (hf : ∀ i, i < bu → f i < 512) (hbu : bu ≤ 4000) (cg9 : Nat → Int32) (h3 : ce 37 = .inl (cI, 512, .inl cg9)) (a b kx : Int32) : Met l yM_least (.code yM_least bM_least 6 (some .int) :: WA) ({ frames := 2, cells := 0, slots := 0, locals := 45 }) (PM D (TY cI cO cJ) N ad ce sz [.ref (ad 34), .int (a), .int (b), .int (kx)]) (va_Qi (fun (r : Int32) (ce1 : Nat → va_E) => (∀ j, j ≠ 34 → j ≠ 37 → ce1 j = ce j) ∧ ((¬ PA a b bu ∧ r = nI 0 ∧ ce1 34 = .inr (3, [.int (nI 1), .ref (ad 35), .ref (ad 36), .ref (ad 37), .ref (ad 38), .ref (ad 39), .int (nI rs), .int (nI bu), .int (nI tl)])) ∨ (∃ u v, u ≤ v ∧ v ≤ bu ∧ a = nI u ∧ b = nI v ∧ (¬ ∃ k0, k0 < v - u ∧ kx = nI k0) ∧ r = nI 0 ∧ ce1 34 = .inr (3, [.int (nI 2), .ref (ad 35), .ref (ad 36), .ref (ad 37), .ref (ad 38), .ref (ad 39), .int (nI rs), .int (nI bu), .int (nI tl)])) ∨ (∃ u v k0 y, u ≤ v ∧ v ≤ bu ∧ a = nI u ∧ b = nI v ∧ k0 < v - u ∧ kx = nI k0 ∧ KT f u v k0 y ∧ r = nI y ∧ ce1 34 = .inr (3, [.int (nI 0), .ref (ad 35), .ref (ad 36), .ref (ad 37), .ref (ad 38), .ref (ad 39), .int (nI rs), .int (nI bu), .int (nI tl)]) ∧ ∃ g : Nat → Int32, ce1 37 = .inl (cI, 512, .inl g)) ) ∧ ∃ g : Nat → Int32, ce1 37 = .inl (cI, 512, .inl g)) (BW D (TY cI cO cJ) N ad (AW N ad sz)) (AW N ad sz)) 0 0 (AW N ad sz) := by
  refine Met.ofW (cc := bM_least) (maxL := 6) (ret := (some .int)) (by decide) rfl ?_
  intro p e s m args below meth c s₁ B hml hv
  obtain ⟨rfl, hsz, hP, hK, hD0⟩ := hv
  have hx := B.exec
  have hb := B.bytes
  have hr := B.returns
  have hA9 : ∀ w ∈ WA, w.before _ s = true := fun w h => atoms_spec (ws := .code yM_least bM_least 6 (some .int) :: WA) B.pre w (List.mem_cons_of_mem _ h)
  have hown : s.vm.findClass RM = some m.cls := findClass_of_methodNamed B.named
  have hlocks := B.notSynchronized
  subst hsz
  have hD := aw_D (sz := s.heap.size) hD0
  generalize hAe : AW N ad s.heap.size = A at hD ⊢
  have hA : ∀ q, s.heap.size ≤ q → A q := fun q h => by rw [← hAe]; exact Or.inr h
  clear hAe hD0
  have hl := lv_entry ([.ref (ad 34), .int (a), .int (b), .int (kx)]) (n := 6) (Nat.le_of_ble_eq_true rfl)
  rw [lg_entry_eq]
  generalize (lg_sl ([.ref (ad 34), .int (a), .int (b), .int (kx)]) ++ List.replicate (6 - (lg_sl ([.ref (ad 34), .int (a), .int (b), .int (kx)])).length) Slot.unset).toArray = ls at hl ⊢
  have hl : lv_has ls 6 [(0, .ref (ad 34)), (1, .int (a)), (2, .int (b)), (3, .int (kx))] := hl
  refine st0 (A := A) (fun H locs hS hH => ?_)
  rw [← hH] at hP
  clear hH
  refine lv_aload_n hx hb dM_least_0 rfl (lv_at hl 0 rfl) ?_
  refine lv_iload_n hx hb dM_least_1 rfl (lv_at hl 1 rfl) ?_
  refine lv_iload_n hx hb dM_least_2 rfl (lv_at hl 2 rfl) ?_
  refine lv_iconst (v := nI (bN false)) hx hb dM_least_3 (by decide +kernel) ?_
  refine cvi (va_runV (As := [.int (a), .int (b), .int (nI (bN false))]) (rest := []) ⟨hx, hb, hml, hown, hA9⟩ (c_M_noPart l D cI cO cJ N ad ce H.size hN (th) rs bu tl h0 hbu (a) (b) false) (cwV 3 hA9 (gV mlM_42 miM_noPart msM_noPart mn_M mkM_noPart) rfl rfl rfl (by decide +kernel) ⟨Nat.le_of_ble_eq_true rfl, Nat.le_of_ble_eq_true rfl⟩) ⟨PM_bl, wx_recv hK hP (by omega) h0 rfl, PM_mk hK hP hD⟩ rfl rfl hl.1 rfl (lv_room (Nat.le_of_ble_eq_true rfl)) dM_least_4 ⟨Nat.le_of_ble_eq_true rfl, Nat.le_of_ble_eq_true rfl⟩) hS hD hA (fun r1 ce1 H locs hpost hP hD hS => ?_)
  obtain ⟨nf, ⟨pa, hm, rfl, nz⟩ | ⟨np, rfl, nz⟩⟩ := hpost
  · skip
    have q2 : ce1 36 = .inl (cI, 4000, .inl mt) := (nf 36 (by omega)).trans h2
    have q3 : ce1 37 = .inl (cI, 512, .inl cg9) := (nf 37 (by omega)).trans h3
    have fr4 : ∀ j, j ≠ 34 → ce1 j = ce j := fun j g0 => (nf j g0)
    obtain ⟨u, v, huv, hv, rfl, rfl⟩ := pa
    refine lv_if_ne (tgt := 34) hx hb dM_least_7 (by decide) (fun c7 => ?_) (fun c7 => ?_)
    · skip
      exact absurd (show nI (bN false) = 0 from nI_0) c7
    · skip
      refine lv_aload_n hx hb dM_least_10 rfl (lv_at hl 0 rfl) ?_
      refine lv_iconst (v := nI 2) hx hb dM_least_11 (by decide +kernel) ?_
      refine lv_iload_n hx hb dM_least_12 rfl (lv_at hl 3 rfl) ?_
      refine lv_if_lt (tgt := 23) hx hb dM_least_13 (by decide) (fun c13 => ?_) (fun c13 => ?_)
      · skip
        have nk : ¬ ∃ k0, k0 < v - u ∧ kx = nI k0 := fun ⟨k0, q1, q2⟩ => neg_n c13 q2
        refine lv_iconst (v := nI (bN true)) hx hb dM_least_23 (by decide +kernel) ?_
        refine lv_goto (tgt := 28) hx hb dM_least_24 (by decide) ?_
        refine cvi (va_runV (As := [.int (nI 2), .int (nI (bN true))]) (rest := []) ⟨hx, hb, hml, hown, hA9⟩ (c_M_refuse l D cI cO cJ N ad ce1 H.size hN (nI 0) rs bu tl nz 2 true) (cwV 2 hA9 (gV mlM_38 miM_refuse msM_refuse mn_M mkM_refuse) rfl rfl rfl (by decide +kernel) ⟨Nat.le_of_ble_eq_true rfl, Nat.le_of_ble_eq_true rfl⟩) ⟨PM_bl, wx_recv hK hP (by omega) nz rfl, PM_mk hK hP hD⟩ rfl rfl hl.1 rfl (lv_room (Nat.le_of_ble_eq_true rfl)) dM_least_28 ⟨Nat.le_of_ble_eq_true rfl, Nat.le_of_ble_eq_true rfl⟩) hS hD hA (fun r5 ce2 H locs hpost hP hD hS => ?_)
        obtain ⟨rfl, rf, rz⟩ := hpost
        have q6 : ce2 34 = .inr (3, [.int (nI 2), .ref (ad 35), .ref (ad 36), .ref (ad 37), .ref (ad 38), .ref (ad 39), .int (nI rs), .int (nI bu), .int (nI tl)]) := rz
        have q7 : ce2 36 = .inl (cI, 4000, .inl mt) := (rf 36 (by omega)).trans q2
        have q8 : ce2 37 = .inl (cI, 512, .inl cg9) := (rf 37 (by omega)).trans q3
        have fr9 : ∀ j, j ≠ 34 → ce2 j = ce j := fun j g0 => (rf j g0).trans (fr4 j g0)
        refine lv_if_eq (tgt := 36) hx hb dM_least_31 (by decide) (fun c31 => ?_) (fun c31 => ?_)
        · skip
          exact absurd c31 (by decide +kernel)
        · skip
          refine lv_iconst (v := nI 0) hx hb dM_least_34 (by decide +kernel) ?_
          exact W.iret (v := (nI 0)) hx hb hr (fun t ht hW => ⟨⟨(nI 0), ce2, rfl, ⟨(fun j g0 g1 => fr9 j g0), Or.inr (Or.inl ⟨u, v, huv, hv, rfl, rfl, nk, rfl, q6⟩), cg9, q8⟩, by rw [ht]; exact hP, va_K.moved hW.alike hK, hD⟩, hS.F ht⟩) hS.2.2 dM_least_35
      · skip
        refine lv_iload_n hx hb dM_least_16 rfl (lv_at hl 3 rfl) ?_
        refine lv_iload_n hx hb dM_least_17 rfl (lv_at hl 2 rfl) ?_
        refine lv_iload_n hx hb dM_least_18 rfl (lv_at hl 1 rfl) ?_
        refine lv_isub hx hb dM_least_19 ?_
        refine lv_icmp_lt (tgt := 27) hx hb dM_least_20 (by decide) (fun c20 => ?_) (fun c20 => ?_)
        · skip
          obtain ⟨k0, hk0, rfl⟩ := rl_mk c13 (by rw [← pk_sub huv]; exact c20)
          refine lv_iconst (v := nI (bN false)) hx hb dM_least_27 (by decide +kernel) ?_
          refine cvi (va_runV (As := [.int (nI 2), .int (nI (bN false))]) (rest := []) ⟨hx, hb, hml, hown, hA9⟩ (c_M_refuse l D cI cO cJ N ad ce1 H.size hN (nI 0) rs bu tl nz 2 false) (cwV 2 hA9 (gV mlM_38 miM_refuse msM_refuse mn_M mkM_refuse) rfl rfl rfl (by decide +kernel) ⟨Nat.le_of_ble_eq_true rfl, Nat.le_of_ble_eq_true rfl⟩) ⟨PM_bl, wx_recv hK hP (by omega) nz rfl, PM_mk hK hP hD⟩ rfl rfl hl.1 rfl (lv_room (Nat.le_of_ble_eq_true rfl)) dM_least_28 ⟨Nat.le_of_ble_eq_true rfl, Nat.le_of_ble_eq_true rfl⟩) hS hD hA (fun r10 ce2 H locs hpost hP hD hS => ?_)
          obtain ⟨rfl, rf, rz⟩ := hpost
          have q11 : ce2 34 = .inr (3, [.int (nI 0), .ref (ad 35), .ref (ad 36), .ref (ad 37), .ref (ad 38), .ref (ad 39), .int (nI rs), .int (nI bu), .int (nI tl)]) := rz
          have q12 : ce2 36 = .inl (cI, 4000, .inl mt) := (rf 36 (by omega)).trans q2
          have q13 : ce2 37 = .inl (cI, 512, .inl cg9) := (rf 37 (by omega)).trans q3
          have fr14 : ∀ j, j ≠ 34 → ce2 j = ce j := fun j g0 => (rf j g0).trans (fr4 j g0)
          refine lv_if_eq (tgt := 36) hx hb dM_least_31 (by decide) (fun c31 => ?_) (fun c31 => ?_)
          · skip
            refine lv_aload_n hx hb dM_least_36 rfl (lv_at hl 0 rfl) ?_
            refine lv_iload_n hx hb dM_least_37 rfl (lv_at hl 1 rfl) ?_
            refine lv_iload_n hx hb dM_least_38 rfl (lv_at hl 2 rfl) ?_
            refine cv (va_runV (As := [.int (nI u), .int (nI v)]) (rest := []) ⟨hx, hb, hml, hown, hA9⟩ (c_M_counted l D cI cO cJ N ad ce2 H.size hN (nI 0) rs bu tl q11 mt q12 f hmt hf hbu cg9 q13 u v huv hv) (cwV 2 hA9 (gV mlM_46 miM_counted msM_counted mn_M mkM_counted) rfl rfl rfl (by decide +kernel) ⟨Nat.le_of_ble_eq_true rfl, Nat.le_of_ble_eq_true rfl⟩) ⟨PM_bl, wx_recv hK hP (by omega) q11 rfl, PM_mk hK hP hD⟩ rfl rfl hl.1 rfl (lv_room (Nat.le_of_ble_eq_true rfl)) dM_least_39 ⟨Nat.le_of_ble_eq_true rfl, Nat.le_of_ble_eq_true rfl⟩) hS hD hA (fun ce3 H locs hpost hP hD hS => ?_)
            obtain ⟨cf, cg, cz, ch⟩ := hpost
            have q16 : ce3 34 = .inr (3, [.int (nI 0), .ref (ad 35), .ref (ad 36), .ref (ad 37), .ref (ad 38), .ref (ad 39), .int (nI rs), .int (nI bu), .int (nI tl)]) := (cf 34 (by omega)).trans q11
            have q17 : ce3 36 = .inl (cI, 4000, .inl mt) := (cf 36 (by omega)).trans q12
            have fr18 : ∀ j, j ≠ 34 → j ≠ 37 → ce3 j = ce j := fun j g0 g1 => (cf j g1).trans (fr14 j g0)
            refine lv_iload_n hx hb dM_least_42 rfl (lv_at hl 3 rfl) ?_
            refine lv_istore (lv' := [(4, .int (nI k0)), (0, .ref (ad 34)), (1, .int (nI u)), (2, .int (nI v)), (3, .int (nI k0))]) hx hb dM_least_43 hl (by decide) rfl (fun ls hl => ?_)
            refine lv_iconst (v := nI 0) hx hb dM_least_45 (by decide +kernel) ?_
            refine lv_istore (lv' := [(5, .int (nI 0)), (4, .int (nI k0)), (0, .ref (ad 34)), (1, .int (nI u)), (2, .int (nI v)), (3, .int (nI k0))]) hx hb dM_least_46 hl (by decide) rfl (fun ls hl => ?_)
            obtain ⟨y, hy0⟩ : ∃ z : Nat, (0) = z := ⟨_, rfl⟩
            replace hl : lv_has ls 6 [(5, .int (nI y)), (4, .int (nI (k0 - lq f y u v))), (0, .ref (ad 34)), (1, .int (nI u)), (2, .int (nI v)), (3, .int (nI k0))] := by subst hy0; rw [lq_0 f huv, Nat.sub_zero]; exact lv_sub hl [0, 1, 2, 3, 4, 5] rfl
            have J : y ≤ 512 ∧ lq f y u v ≤ k0 := by subst hy0; exact ⟨by omega, by rw [lq_0 f huv]; omega⟩
            clear hy0
            obtain ⟨k9, hk9⟩ : ∃ z9 : Nat, z9 = 512 - y := ⟨_, rfl⟩
            induction k9 using Nat.strongRecOn generalizing y ls with
            | ind k9 ih =>
              obtain ⟨j1, j2⟩ := J
              have hy5 : y < 512 := by
                rcases Nat.lt_or_ge y 512 with q | q
                · exact q
                · rw [show y = 512 by omega, lq_512 hf huv hv] at j2; omega
              have el := eq_le f y huv
              have ls := lq_s f y huv
              refine lv_iload hx hb dM_least_48 (lv_at hl 1 rfl) ?_
              refine lv_aload_n hx hb dM_least_50 rfl (lv_at hl 2 rfl) ?_
              refine va_get (D := D) (ci := 3) (v := .ref (ad 37)) (C := RM) (T := TM) (N := 9) hx hb hA9 inM hown hK hP 34 (wx_at (by omega) q16) rfl 3 (by decide) (hA9 _ mfM_20) (fun _ h9 => h9) rfl dM_least_51 ?_
              refine lv_iload hx hb dM_least_54 (lv_at hl 0 rfl) ?_
              refine va_iald hx hb hK hP 37 0 (wx_at (by omega) cz) rfl (inN) dM_least_56 ?_
              refine lv_topi (fun z19 ez19 => ?_)
              obtain rfl : z19 = nI (eq f y u v) := by rw [ez19, clN]; exact ch y hy5
              refine lv_icmp_lt (tgt := 78) hx hb dM_least_57 (by decide) (fun c57 => ?_) (fun c57 => ?_)
              · skip
                have d1 := ltN c57
                refine lv_iload hx hb dM_least_78 (lv_at hl 0 rfl) ?_
                exact W.iret (v := (nI y)) hx hb hr (fun t ht hW => ⟨⟨(nI y), ce3, rfl, ⟨(fun j g0 g1 => fr18 j g0 g1), Or.inr (Or.inr ⟨u, v, k0, y, huv, hv, rfl, rfl, hk0, rfl, ⟨j2, by omega⟩, rfl, q16, cg, cz⟩), cg, cz⟩, by rw [ht]; exact hP, va_K.moved hW.alike hK, hD⟩, hS.F ht⟩) hS.2.2 dM_least_80
              · skip
                have d1 := nltN c57
                refine lv_iload hx hb dM_least_60 (lv_at hl 1 rfl) ?_
                refine lv_aload_n hx hb dM_least_62 rfl (lv_at hl 2 rfl) ?_
                refine va_get (D := D) (ci := 3) (v := .ref (ad 37)) (C := RM) (T := TM) (N := 9) hx hb hA9 inM hown hK hP 34 (wx_at (by omega) q16) rfl 3 (by decide) (hA9 _ mfM_20) (fun _ h9 => h9) rfl dM_least_63 ?_
                refine lv_iload hx hb dM_least_66 (lv_at hl 0 rfl) ?_
                refine va_iald hx hb hK hP 37 0 (wx_at (by omega) cz) rfl (inN) dM_least_68 ?_
                refine lv_topi (fun z20 ez20 => ?_)
                obtain rfl : z20 = nI (eq f y u v) := by rw [ez20, clN]; exact ch y hy5
                refine lv_isub hx hb dM_least_69 ?_
                refine lv_topi (fun z21 ez21 => ?_)
                obtain rfl : z21 = nI (k0 - lq f (y + 1) u v) := by rw [ez21]; rw [pk_sub d1]; exact congrArg nI (by omega)
                refine lv_istore (lv' := [(4, .int (nI (k0 - lq f (y + 1) u v))), (5, .int (nI y)), (0, .ref (ad 34)), (1, .int (nI u)), (2, .int (nI v)), (3, .int (nI k0))]) hx hb dM_least_70 hl (by decide) rfl (fun ls hl => ?_)
                refine lv_iinc (v := nI (y + 1)) (lv' := [(5, .int (nI (y + 1))), (4, .int (nI (k0 - lq f (y + 1) u v))), (0, .ref (ad 34)), (1, .int (nI u)), (2, .int (nI v)), (3, .int (nI k0))]) hx hb dM_least_72 hl (k := 1) rfl (nI_1 y) (by decide) rfl (fun ls hl => ?_)
                refine lv_goto (tgt := 48) hx hb dM_least_75 (by decide) ?_
                exact ih _ (by omega) (ls := ls) (y := y + 1) (lv_sub hl [0, 1, 2, 3, 4, 5] rfl) (⟨by omega, by omega⟩) rfl
          · skip
            exact absurd (show nI (bN false) = 0 from nI_0) c31
        · skip
          have nk : ¬ ∃ k0, k0 < v - u ∧ kx = nI k0 := fun ⟨k0, q1, q2⟩ => c20 (by rw [q2, pk_sub huv]; exact nI_lt q1 (by omega))
          refine lv_iconst (v := nI (bN true)) hx hb dM_least_23 (by decide +kernel) ?_
          refine lv_goto (tgt := 28) hx hb dM_least_24 (by decide) ?_
          refine cvi (va_runV (As := [.int (nI 2), .int (nI (bN true))]) (rest := []) ⟨hx, hb, hml, hown, hA9⟩ (c_M_refuse l D cI cO cJ N ad ce1 H.size hN (nI 0) rs bu tl nz 2 true) (cwV 2 hA9 (gV mlM_38 miM_refuse msM_refuse mn_M mkM_refuse) rfl rfl rfl (by decide +kernel) ⟨Nat.le_of_ble_eq_true rfl, Nat.le_of_ble_eq_true rfl⟩) ⟨PM_bl, wx_recv hK hP (by omega) nz rfl, PM_mk hK hP hD⟩ rfl rfl hl.1 rfl (lv_room (Nat.le_of_ble_eq_true rfl)) dM_least_28 ⟨Nat.le_of_ble_eq_true rfl, Nat.le_of_ble_eq_true rfl⟩) hS hD hA (fun r22 ce2 H locs hpost hP hD hS => ?_)
          obtain ⟨rfl, rf, rz⟩ := hpost
          have q23 : ce2 34 = .inr (3, [.int (nI 2), .ref (ad 35), .ref (ad 36), .ref (ad 37), .ref (ad 38), .ref (ad 39), .int (nI rs), .int (nI bu), .int (nI tl)]) := rz
          have q24 : ce2 36 = .inl (cI, 4000, .inl mt) := (rf 36 (by omega)).trans q2
          have q25 : ce2 37 = .inl (cI, 512, .inl cg9) := (rf 37 (by omega)).trans q3
          have fr26 : ∀ j, j ≠ 34 → ce2 j = ce j := fun j g0 => (rf j g0).trans (fr4 j g0)
          refine lv_if_eq (tgt := 36) hx hb dM_least_31 (by decide) (fun c31 => ?_) (fun c31 => ?_)
          · skip
            exact absurd c31 (by decide +kernel)
          · skip
            refine lv_iconst (v := nI 0) hx hb dM_least_34 (by decide +kernel) ?_
            exact W.iret (v := (nI 0)) hx hb hr (fun t ht hW => ⟨⟨(nI 0), ce2, rfl, ⟨(fun j g0 g1 => fr26 j g0), Or.inr (Or.inl ⟨u, v, huv, hv, rfl, rfl, nk, rfl, q23⟩), cg9, q25⟩, by rw [ht]; exact hP, va_K.moved hW.alike hK, hD⟩, hS.F ht⟩) hS.2.2 dM_least_35
  · skip
    have q27 : ce1 36 = .inl (cI, 4000, .inl mt) := (nf 36 (by omega)).trans h2
    have q28 : ce1 37 = .inl (cI, 512, .inl cg9) := (nf 37 (by omega)).trans h3
    have fr29 : ∀ j, j ≠ 34 → ce1 j = ce j := fun j g0 => (nf j g0)
    have no : ¬ PA a b bu := fun h => np ⟨h, rfl⟩
    refine lv_if_ne (tgt := 34) hx hb dM_least_7 (by decide) (fun c7 => ?_) (fun c7 => ?_)
    · skip
      refine lv_iconst (v := nI 0) hx hb dM_least_34 (by decide +kernel) ?_
      exact W.iret (v := (nI 0)) hx hb hr (fun t ht hW => ⟨⟨(nI 0), ce1, rfl, ⟨(fun j g0 g1 => fr29 j g0), Or.inl ⟨no, rfl, nz⟩, cg9, q28⟩, by rw [ht]; exact hP, va_K.moved hW.alike hK, hD⟩, hS.F ht⟩) hS.2.2 dM_least_35
    · skip
      exact absurd c7 (by decide +kernel)

set_option maxHeartbeats 4000000 in
set_option maxRecDepth 100000 in
theorem c_M_different (l : Launch) (D : va_G) (cI cO cJ : ClassId) (N : Nat) (ad : Nat → Nat) (ce : Nat → va_E) (sz : Nat) (hN : 40 ≤ N) (th : Int32) (rs bu tl : Nat) (h0 : ce 34 = .inr (3, [.int (th), .ref (ad 35), .ref (ad 36), .ref (ad 37), .ref (ad 38), .ref (ad 39), .int (nI rs), .int (nI bu), .int (nI tl)])) (mt : Nat → Int32) (h2 : ce 36 = .inl (cI, 4000, .inl mt)) (f : Nat → Nat) (hmt : ∀ i, i < bu → mt i = nI (f i)) (hf : ∀ i, i < bu → f i < 512) (hbu : bu ≤ 4000) (cg9 : Nat → Int32) (h3 : ce 37 = .inl (cI, 512, .inl cg9)) (ga gb : Nat → Int32) (h5 : ce 38 = .inl (cI, 512, .inl ga)) (h6 : ce 39 = .inl (cI, 512, .inl gb)) (a b : Int32) : Met l yM_different (.code yM_different bM_different 4 (some .int) :: WA) ({ frames := 2, cells := 0, slots := 0, locals := 45 }) (PM D (TY cI cO cJ) N ad ce sz [.ref (ad 34), .int (a), .int (b)]) (va_Qi (fun (r : Int32) (ce1 : Nat → va_E) => (∀ j, j ≠ 34 → j ≠ 37 → j ≠ 38 → j ≠ 39 → ce1 j = ce j) ∧ (∃ g : Nat → Int32, ce1 37 = .inl (cI, 512, .inl g)) ∧ ((¬ PA a b bu ∧ r = nI 0 ∧ ce1 34 = .inr (3, [.int (nI 1), .ref (ad 35), .ref (ad 36), .ref (ad 37), .ref (ad 38), .ref (ad 39), .int (nI rs), .int (nI bu), .int (nI tl)]) ∧ ce1 38 = .inl (cI, 512, .inl ga) ∧ ce1 39 = .inl (cI, 512, .inl gb)) ∨ (∃ u v, u ≤ v ∧ v ≤ bu ∧ a = nI u ∧ b = nI v ∧ r = nI (nd f u v 512) ∧ ce1 34 = .inr (3, [.int (nI 0), .ref (ad 35), .ref (ad 36), .ref (ad 37), .ref (ad 38), .ref (ad 39), .int (nI rs), .int (nI bu), .int (nI (nd f u v 512))]) ∧ ∃ ga1 gb1 : Nat → Int32, ce1 38 = .inl (cI, 512, .inl ga1) ∧ ce1 39 = .inl (cI, 512, .inl gb1) ∧ DF f u v 512 ga1 gb1))) (BW D (TY cI cO cJ) N ad (AW N ad sz)) (AW N ad sz)) 0 0 (AW N ad sz) := by
  refine Met.ofW (cc := bM_different) (maxL := 4) (ret := (some .int)) (by decide) rfl ?_
  intro p e s m args below meth c s₁ B hml hv
  obtain ⟨rfl, hsz, hP, hK, hD0⟩ := hv
  have hx := B.exec
  have hb := B.bytes
  have hr := B.returns
  have hA9 : ∀ w ∈ WA, w.before _ s = true := fun w h => atoms_spec (ws := .code yM_different bM_different 4 (some .int) :: WA) B.pre w (List.mem_cons_of_mem _ h)
  have hown : s.vm.findClass RM = some m.cls := findClass_of_methodNamed B.named
  have hlocks := B.notSynchronized
  subst hsz
  have hD := aw_D (sz := s.heap.size) hD0
  generalize hAe : AW N ad s.heap.size = A at hD ⊢
  have hA : ∀ q, s.heap.size ≤ q → A q := fun q h => by rw [← hAe]; exact Or.inr h
  clear hAe hD0
  have hl := lv_entry ([.ref (ad 34), .int (a), .int (b)]) (n := 4) (Nat.le_of_ble_eq_true rfl)
  rw [lg_entry_eq]
  generalize (lg_sl ([.ref (ad 34), .int (a), .int (b)]) ++ List.replicate (4 - (lg_sl ([.ref (ad 34), .int (a), .int (b)])).length) Slot.unset).toArray = ls at hl ⊢
  have hl : lv_has ls 4 [(0, .ref (ad 34)), (1, .int (a)), (2, .int (b))] := hl
  refine st0 (A := A) (fun H locs hS hH => ?_)
  rw [← hH] at hP
  clear hH
  refine lv_aload_n hx hb dM_different_0 rfl (lv_at hl 0 rfl) ?_
  refine lv_iload_n hx hb dM_different_1 rfl (lv_at hl 1 rfl) ?_
  refine lv_iload_n hx hb dM_different_2 rfl (lv_at hl 2 rfl) ?_
  refine lv_iconst (v := nI (bN false)) hx hb dM_different_3 (by decide +kernel) ?_
  refine cvi (va_runV (As := [.int (a), .int (b), .int (nI (bN false))]) (rest := []) ⟨hx, hb, hml, hown, hA9⟩ (c_M_noPart l D cI cO cJ N ad ce H.size hN (th) rs bu tl h0 hbu (a) (b) false) (cwV 3 hA9 (gV mlM_42 miM_noPart msM_noPart mn_M mkM_noPart) rfl rfl rfl (by decide +kernel) ⟨Nat.le_of_ble_eq_true rfl, Nat.le_of_ble_eq_true rfl⟩) ⟨PM_bl, wx_recv hK hP (by omega) h0 rfl, PM_mk hK hP hD⟩ rfl rfl hl.1 rfl (lv_room (Nat.le_of_ble_eq_true rfl)) dM_different_4 ⟨Nat.le_of_ble_eq_true rfl, Nat.le_of_ble_eq_true rfl⟩) hS hD hA (fun r1 ce1 H locs hpost hP hD hS => ?_)
  obtain ⟨nf, ⟨pa, hm, rfl, nz⟩ | ⟨np, rfl, nz⟩⟩ := hpost
  · skip
    have q2 : ce1 36 = .inl (cI, 4000, .inl mt) := (nf 36 (by omega)).trans h2
    have q3 : ce1 37 = .inl (cI, 512, .inl cg9) := (nf 37 (by omega)).trans h3
    have q4 : ce1 38 = .inl (cI, 512, .inl ga) := (nf 38 (by omega)).trans h5
    have q5 : ce1 39 = .inl (cI, 512, .inl gb) := (nf 39 (by omega)).trans h6
    have fr6 : ∀ j, j ≠ 34 → ce1 j = ce j := fun j g0 => (nf j g0)
    obtain ⟨u, v, huv, hv, rfl, rfl⟩ := pa
    refine lv_if_eq (tgt := 12) hx hb dM_different_7 (by decide) (fun c7 => ?_) (fun c7 => ?_)
    · skip
      refine lv_aload_n hx hb dM_different_12 rfl (lv_at hl 0 rfl) ?_
      refine lv_iload_n hx hb dM_different_13 rfl (lv_at hl 1 rfl) ?_
      refine lv_iload_n hx hb dM_different_14 rfl (lv_at hl 2 rfl) ?_
      refine cv (va_runV (As := [.int (nI u), .int (nI v)]) (rest := []) ⟨hx, hb, hml, hown, hA9⟩ (c_M_counted l D cI cO cJ N ad ce1 H.size hN (nI 0) rs bu tl nz mt q2 f hmt hf hbu cg9 q3 u v huv hv) (cwV 2 hA9 (gV mlM_46 miM_counted msM_counted mn_M mkM_counted) rfl rfl rfl (by decide +kernel) ⟨Nat.le_of_ble_eq_true rfl, Nat.le_of_ble_eq_true rfl⟩) ⟨PM_bl, wx_recv hK hP (by omega) nz rfl, PM_mk hK hP hD⟩ rfl rfl hl.1 rfl (lv_room (Nat.le_of_ble_eq_true rfl)) dM_different_15 ⟨Nat.le_of_ble_eq_true rfl, Nat.le_of_ble_eq_true rfl⟩) hS hD hA (fun ce2 H locs hpost hP hD hS => ?_)
      obtain ⟨cf, cg, cz, ch⟩ := hpost
      have q8 : ce2 34 = .inr (3, [.int (nI 0), .ref (ad 35), .ref (ad 36), .ref (ad 37), .ref (ad 38), .ref (ad 39), .int (nI rs), .int (nI bu), .int (nI tl)]) := (cf 34 (by omega)).trans nz
      have q9 : ce2 36 = .inl (cI, 4000, .inl mt) := (cf 36 (by omega)).trans q2
      have q10 : ce2 38 = .inl (cI, 512, .inl ga) := (cf 38 (by omega)).trans q4
      have q11 : ce2 39 = .inl (cI, 512, .inl gb) := (cf 39 (by omega)).trans q5
      have fr12 : ∀ j, j ≠ 34 → j ≠ 37 → ce2 j = ce j := fun j g0 g1 => (cf j g1).trans (fr6 j g0)
      refine lv_aload_n hx hb dM_different_18 rfl (lv_at hl 0 rfl) ?_
      refine lv_iconst (v := nI (nd f u v 0)) hx hb dM_different_19 (by rw [show nd f u v 0 = 0 from rfl]; decide +kernel) ?_
      refine va_put (D := D) (ci := 3) (v := .int (nI (nd f u v 0))) (ty := .int) (C := RM) (T := TM) (N := 9) hx hb hA9 inM tyM tyM_ok nmM hown hK hP hD hS 34 (wx_at (by omega) q8) rfl 8 (by decide) (hA9 _ mfM_35) (fun _ h9 => h9) rfl (by decide +kernel) rfl rfl (Nat.le_of_ble_eq_true rfl) dM_different_20 (fun H locs hP hD hS => ?_)
      replace hP : va_P D CLS ((wx N ad ce2).set 34 (ad 34, .inr (3, [.int (nI 0), .ref (ad 35), .ref (ad 36), .ref (ad 37), .ref (ad 38), .ref (ad 39), .int (nI rs), .int (nI bu), .int (nI (nd f u v 0))]))) H := hP
      replace hD : va_D A ((wx N ad ce2).set 34 (ad 34, .inr (3, [.int (nI 0), .ref (ad 35), .ref (ad 36), .ref (ad 37), .ref (ad 38), .ref (ad 39), .int (nI rs), .int (nI bu), .int (nI (nd f u v 0))]))) := hD
      obtain ⟨ce3, hce3⟩ : ∃ z9, z9 = va_up ce2 34 (.inr (3, [.int (nI 0), .ref (ad 35), .ref (ad 36), .ref (ad 37), .ref (ad 38), .ref (ad 39), .int (nI rs), .int (nI bu), .int (nI (nd f u v 0))])) := ⟨_, rfl⟩
      rw [wx_set (by omega), ← hce3] at hP hD
      have q13 : ce3 36 = .inl (cI, 4000, .inl mt) := by rw [hce3, va_up_ne _ _ (by omega)]; exact q9
      have q14 : ce3 37 = .inl (cI, 512, .inl cg) := by rw [hce3, va_up_ne _ _ (by omega)]; exact cz
      have q15 : ce3 38 = .inl (cI, 512, .inl ga) := by rw [hce3, va_up_ne _ _ (by omega)]; exact q10
      have q16 : ce3 39 = .inl (cI, 512, .inl gb) := by rw [hce3, va_up_ne _ _ (by omega)]; exact q11
      have q17 : ce3 34 = .inr (3, [.int (nI 0), .ref (ad 35), .ref (ad 36), .ref (ad 37), .ref (ad 38), .ref (ad 39), .int (nI rs), .int (nI bu), .int (nI (nd f u v 0))]) := by rw [hce3, va_up_self]
      have fr18 : ∀ j, j ≠ 34 → j ≠ 37 → ce3 j = ce j := fun j h0 h1 => by rw [hce3, va_up_ne _ _ h0]; exact fr12 j h0 h1
      refine lv_iconst (v := nI 0) hx hb dM_different_23 (by decide +kernel) ?_
      refine lv_istore_n (lv' := [(3, .int (nI 0)), (0, .ref (ad 34)), (1, .int (nI u)), (2, .int (nI v))]) hx hb dM_different_24 rfl hl (by decide) rfl (fun ls hl => ?_)
      obtain ⟨cl, hcl0⟩ : ∃ z : Nat → va_E, ce3 = z := ⟨_, rfl⟩
      obtain ⟨w9, hw90⟩ : ∃ z : Nat, (0) = z := ⟨_, rfl⟩
      obtain ⟨ga1, hga10⟩ : ∃ z : Nat → Int32, (ga) = z := ⟨_, rfl⟩
      obtain ⟨gb1, hgb10⟩ : ∃ z : Nat → Int32, (gb) = z := ⟨_, rfl⟩
      replace hl : lv_has ls 4 [(3, .int (nI w9)), (0, .ref (ad 34)), (1, .int (nI u)), (2, .int (nI v))] := by subst hw90 hga10 hgb10; exact lv_sub hl [0, 1, 2, 3] rfl
      have J : (∀ j, j ≠ 34 → j ≠ 37 → j ≠ 38 → j ≠ 39 → cl j = ce j) ∧ cl 34 = .inr (3, [.int (nI 0), .ref (ad 35), .ref (ad 36), .ref (ad 37), .ref (ad 38), .ref (ad 39), .int (nI rs), .int (nI bu), .int (nI (nd f u v w9))]) ∧ cl 37 = .inl (cI, 512, .inl cg) ∧ cl 38 = .inl (cI, 512, .inl ga1) ∧ cl 39 = .inl (cI, 512, .inl gb1) ∧ w9 ≤ 512 ∧ DF f u v w9 ga1 gb1 := by
        subst hcl0 hw90 hga10 hgb10
        exact ⟨(fun j g0 g1 g2 g3 => fr18 j g0 g1), q17, q14, q15, q16, by omega, fun t ht => absurd ht (by omega)⟩
      rw [hcl0] at hP hD
      clear hcl0 hw90 hga10 hgb10
      obtain ⟨k9, hk9⟩ : ∃ z9 : Nat, z9 = 512 - w9 := ⟨_, rfl⟩
      induction k9 using Nat.strongRecOn generalizing w9 ga1 gb1 cl H locs ls with
      | ind k9 ih =>
        obtain ⟨fr0, e34, e37, e38, e39, j1, j2⟩ := J
        have nle := nd_le f u v w9
        refine lv_iload_n hx hb dM_different_25 rfl (lv_at hl 0 rfl) ?_
        refine lv_sipush (v := nI 512) hx hb dM_different_26 (by decide +kernel) ?_
        refine lv_icmp_ge (tgt := 82) hx hb dM_different_29 (by decide) (fun c29 => ?_) (fun c29 => ?_)
        · skip
          have d1 := leN c29
          have hw9 : w9 = 512 := by omega
          subst hw9
          refine lv_aload_n hx hb dM_different_82 rfl (lv_at hl 1 rfl) ?_
          refine va_get (D := D) (ci := 3) (v := .int (nI (nd f u v 512))) (C := RM) (T := TM) (N := 9) hx hb hA9 inM hown hK hP 34 (wx_at (by omega) e34) rfl 8 (by decide) (hA9 _ mfM_35) (fun _ h9 => h9) rfl dM_different_83 ?_
          exact W.iret (v := (nI (nd f u v 512))) hx hb hr (fun t ht hW => ⟨⟨(nI (nd f u v 512)), cl, rfl, ⟨fr0, ⟨cg, e37⟩, Or.inr ⟨u, v, huv, hv, rfl, rfl, rfl, e34, ga1, gb1, e38, e39, j2⟩⟩, by rw [ht]; exact hP, va_K.moved hW.alike hK, hD⟩, hS.F ht⟩) hS.2.2 dM_different_86
        · skip
          have d1 := nleN c29
          have el := eq_le f w9 huv
          refine lv_aload_n hx hb dM_different_32 rfl (lv_at hl 1 rfl) ?_
          refine va_get (D := D) (ci := 3) (v := .ref (ad 37)) (C := RM) (T := TM) (N := 9) hx hb hA9 inM hown hK hP 34 (wx_at (by omega) e34) rfl 3 (by decide) (hA9 _ mfM_20) (fun _ h9 => h9) rfl dM_different_33 ?_
          refine lv_iload_n hx hb dM_different_36 rfl (lv_at hl 0 rfl) ?_
          refine va_iald hx hb hK hP 37 0 (wx_at (by omega) e37) rfl (inN) dM_different_37 ?_
          refine lv_topi (fun z19 ez19 => ?_)
          obtain rfl : z19 = nI (eq f w9 u v) := by rw [ez19, clN]; exact ch w9 (by omega)
          refine lv_if_ne (tgt := 44) hx hb dM_different_38 (by decide) (fun c38 => ?_) (fun c38 => ?_)
          · skip
            have z1 : 0 < eq f w9 u v := Nat.pos_of_ne_zero (neN (b := 0) (fun q => c38 (q.trans nI_0)))
            have nb := nd_mono f u v (show w9 + 1 ≤ 512 by omega)
            rw [nd_s1 z1] at nb
            have nb2 := nd_le f u v 512
            refine lv_aload_n hx hb dM_different_44 rfl (lv_at hl 1 rfl) ?_
            refine va_get (D := D) (ci := 3) (v := .ref (ad 38)) (C := RM) (T := TM) (N := 9) hx hb hA9 inM hown hK hP 34 (wx_at (by omega) e34) rfl 4 (by decide) (hA9 _ mfM_23) (fun _ h9 => h9) rfl dM_different_45 ?_
            refine lv_aload_n hx hb dM_different_48 rfl (lv_at hl 1 rfl) ?_
            refine va_get (D := D) (ci := 3) (v := .int (nI (nd f u v w9))) (C := RM) (T := TM) (N := 9) hx hb hA9 inM hown hK hP 34 (wx_at (by omega) e34) rfl 8 (by decide) (hA9 _ mfM_35) (fun _ h9 => h9) rfl dM_different_49 ?_
            refine lv_iload_n hx hb dM_different_52 rfl (lv_at hl 0 rfl) ?_
            refine va_iast hx hb hK hP hD hS 38 0 (wx_at (by omega) e38) rfl (inN) dM_different_53 (fun H locs hP hD hS => ?_)
            rw [clN (a := (nd f u v w9))] at hP hD
            obtain ⟨ce4, hce4⟩ : ∃ z9, z9 = va_up cl 38 (.inl (cI, 512, .inl (upd ga1 (nd f u v w9) (nI w9)))) := ⟨_, rfl⟩
            rw [wx_set (by omega), ← hce4] at hP hD
            have q20 : ce4 34 = .inr (3, [.int (nI 0), .ref (ad 35), .ref (ad 36), .ref (ad 37), .ref (ad 38), .ref (ad 39), .int (nI rs), .int (nI bu), .int (nI (nd f u v w9))]) := by rw [hce4, va_up_ne _ _ (by omega)]; exact e34
            have q21 : ce4 37 = .inl (cI, 512, .inl cg) := by rw [hce4, va_up_ne _ _ (by omega)]; exact e37
            have q22 : ce4 39 = .inl (cI, 512, .inl gb1) := by rw [hce4, va_up_ne _ _ (by omega)]; exact e39
            have q23 : ce4 38 = .inl (cI, 512, .inl (upd ga1 (nd f u v w9) (nI w9))) := by rw [hce4, va_up_self]
            have fr24 : ∀ j, j ≠ 34 → j ≠ 37 → j ≠ 38 → j ≠ 39 → ce4 j = ce j := fun j h0 h1 h2 h3 => by rw [hce4, va_up_ne _ _ h2]; exact fr0 j h0 h1 h2 h3
            refine lv_aload_n hx hb dM_different_54 rfl (lv_at hl 1 rfl) ?_
            refine va_get (D := D) (ci := 3) (v := .ref (ad 39)) (C := RM) (T := TM) (N := 9) hx hb hA9 inM hown hK hP 34 (wx_at (by omega) q20) rfl 5 (by decide) (hA9 _ mfM_26) (fun _ h9 => h9) rfl dM_different_55 ?_
            refine lv_aload_n hx hb dM_different_58 rfl (lv_at hl 1 rfl) ?_
            refine lv_dup hx hb dM_different_59 rfl ?_
            refine va_get (D := D) (ci := 3) (v := .int (nI (nd f u v w9))) (C := RM) (T := TM) (N := 9) hx hb hA9 inM hown hK hP 34 (wx_at (by omega) q20) rfl 8 (by decide) (hA9 _ mfM_35) (fun _ h9 => h9) rfl dM_different_60 ?_
            refine lv_dup_x1 hx hb dM_different_63 rfl rfl ?_
            refine lv_iconst (v := nI 1) hx hb dM_different_64 (by decide +kernel) ?_
            refine lv_iadd hx hb dM_different_65 ?_
            refine lv_topi (fun z25 ez25 => ?_)
            obtain rfl : z25 = nI (nd f u v w9 + 1) := by rw [ez25]; exact nI_add _ _
            refine va_put (D := D) (ci := 3) (v := .int (nI (nd f u v w9 + 1))) (ty := .int) (C := RM) (T := TM) (N := 9) hx hb hA9 inM tyM tyM_ok nmM hown hK hP hD hS 34 (wx_at (by omega) q20) rfl 8 (by decide) (hA9 _ mfM_35) (fun _ h9 => h9) rfl (by decide +kernel) rfl rfl (Nat.le_of_ble_eq_true rfl) dM_different_66 (fun H locs hP hD hS => ?_)
            replace hP : va_P D CLS ((wx N ad ce4).set 34 (ad 34, .inr (3, [.int (nI 0), .ref (ad 35), .ref (ad 36), .ref (ad 37), .ref (ad 38), .ref (ad 39), .int (nI rs), .int (nI bu), .int (nI (nd f u v w9 + 1))]))) H := hP
            replace hD : va_D A ((wx N ad ce4).set 34 (ad 34, .inr (3, [.int (nI 0), .ref (ad 35), .ref (ad 36), .ref (ad 37), .ref (ad 38), .ref (ad 39), .int (nI rs), .int (nI bu), .int (nI (nd f u v w9 + 1))]))) := hD
            obtain ⟨ce5, hce5⟩ : ∃ z9, z9 = va_up ce4 34 (.inr (3, [.int (nI 0), .ref (ad 35), .ref (ad 36), .ref (ad 37), .ref (ad 38), .ref (ad 39), .int (nI rs), .int (nI bu), .int (nI (nd f u v w9 + 1))])) := ⟨_, rfl⟩
            rw [wx_set (by omega), ← hce5] at hP hD
            have q26 : ce5 37 = .inl (cI, 512, .inl cg) := by rw [hce5, va_up_ne _ _ (by omega)]; exact q21
            have q27 : ce5 38 = .inl (cI, 512, .inl (upd ga1 (nd f u v w9) (nI w9))) := by rw [hce5, va_up_ne _ _ (by omega)]; exact q23
            have q28 : ce5 39 = .inl (cI, 512, .inl gb1) := by rw [hce5, va_up_ne _ _ (by omega)]; exact q22
            have q29 : ce5 34 = .inr (3, [.int (nI 0), .ref (ad 35), .ref (ad 36), .ref (ad 37), .ref (ad 38), .ref (ad 39), .int (nI rs), .int (nI bu), .int (nI (nd f u v w9 + 1))]) := by rw [hce5, va_up_self]
            have fr30 : ∀ j, j ≠ 34 → j ≠ 37 → j ≠ 38 → j ≠ 39 → ce5 j = ce j := fun j h0 h1 h2 h3 => by rw [hce5, va_up_ne _ _ h0]; exact fr24 j h0 h1 h2 h3
            refine lv_aload_n hx hb dM_different_69 rfl (lv_at hl 1 rfl) ?_
            refine va_get (D := D) (ci := 3) (v := .ref (ad 37)) (C := RM) (T := TM) (N := 9) hx hb hA9 inM hown hK hP 34 (wx_at (by omega) q29) rfl 3 (by decide) (hA9 _ mfM_20) (fun _ h9 => h9) rfl dM_different_70 ?_
            refine lv_iload_n hx hb dM_different_73 rfl (lv_at hl 0 rfl) ?_
            refine va_iald hx hb hK hP 37 0 (wx_at (by omega) q26) rfl (inN) dM_different_74 ?_
            refine lv_topi (fun z31 ez31 => ?_)
            obtain rfl : z31 = nI (eq f w9 u v) := by rw [ez31, clN]; exact ch w9 (by omega)
            refine va_iast hx hb hK hP hD hS 39 0 (wx_at (by omega) q28) rfl (inN) dM_different_75 (fun H locs hP hD hS => ?_)
            rw [clN (a := (nd f u v w9))] at hP hD
            obtain ⟨ce6, hce6⟩ : ∃ z9, z9 = va_up ce5 39 (.inl (cI, 512, .inl (upd gb1 (nd f u v w9) (nI (eq f w9 u v))))) := ⟨_, rfl⟩
            rw [wx_set (by omega), ← hce6] at hP hD
            have q32 : ce6 34 = .inr (3, [.int (nI 0), .ref (ad 35), .ref (ad 36), .ref (ad 37), .ref (ad 38), .ref (ad 39), .int (nI rs), .int (nI bu), .int (nI (nd f u v w9 + 1))]) := by rw [hce6, va_up_ne _ _ (by omega)]; exact q29
            have q33 : ce6 37 = .inl (cI, 512, .inl cg) := by rw [hce6, va_up_ne _ _ (by omega)]; exact q26
            have q34 : ce6 38 = .inl (cI, 512, .inl (upd ga1 (nd f u v w9) (nI w9))) := by rw [hce6, va_up_ne _ _ (by omega)]; exact q27
            have q35 : ce6 39 = .inl (cI, 512, .inl (upd gb1 (nd f u v w9) (nI (eq f w9 u v)))) := by rw [hce6, va_up_self]
            have fr36 : ∀ j, j ≠ 34 → j ≠ 37 → j ≠ 38 → j ≠ 39 → ce6 j = ce j := fun j h0 h1 h2 h3 => by rw [hce6, va_up_ne _ _ h3]; exact fr30 j h0 h1 h2 h3
            refine lv_iinc (v := nI (w9 + 1)) (lv' := [(3, .int (nI (w9 + 1))), (0, .ref (ad 34)), (1, .int (nI u)), (2, .int (nI v))]) hx hb dM_different_76 hl (k := 0) rfl (nI_1 w9) (by decide) rfl (fun ls hl => ?_)
            refine lv_goto (tgt := 25) hx hb dM_different_79 (by decide) ?_
            exact ih _ (by omega) (ls := ls) (cl := ce6) (H := H) (locs := locs) (w9 := w9 + 1) (ga1 := upd ga1 (nd f u v w9) (nI w9)) (gb1 := upd gb1 (nd f u v w9) (nI (eq f w9 u v))) (hP := hP) (hD := hD) (hS := hS) (hl := lv_sub hl [0, 1, 2, 3] rfl) (J := ⟨(fun j g0 g1 g2 g3 => fr36 j g0 g1 g2 g3), by rw [nd_s1 z1]; exact q32, q33, q34, q35, by omega, j2.put z1⟩) (hk9 := rfl)
          · skip
            have z1 : eq f w9 u v = 0 := eqN (b := 0) (c38.trans nI_0.symm)
            refine lv_goto (tgt := 76) hx hb dM_different_41 (by decide) ?_
            refine lv_iinc (v := nI (w9 + 1)) (lv' := [(3, .int (nI (w9 + 1))), (0, .ref (ad 34)), (1, .int (nI u)), (2, .int (nI v))]) hx hb dM_different_76 hl (k := 0) rfl (nI_1 w9) (by decide) rfl (fun ls hl => ?_)
            refine lv_goto (tgt := 25) hx hb dM_different_79 (by decide) ?_
            exact ih _ (by omega) (ls := ls) (cl := cl) (H := H) (locs := locs) (w9 := w9 + 1) (ga1 := ga1) (gb1 := gb1) (hP := hP) (hD := hD) (hS := hS) (hl := lv_sub hl [0, 1, 2, 3] rfl) (J := ⟨(fun j g0 g1 g2 g3 => fr0 j g0 g1 g2 g3), by rw [nd_s0 z1]; exact e34, e37, e38, e39, by omega, j2.skip z1⟩) (hk9 := rfl)
    · skip
      exact absurd (show nI (bN false) = 0 from nI_0) c7
  · skip
    have q37 : ce1 36 = .inl (cI, 4000, .inl mt) := (nf 36 (by omega)).trans h2
    have q38 : ce1 37 = .inl (cI, 512, .inl cg9) := (nf 37 (by omega)).trans h3
    have q39 : ce1 38 = .inl (cI, 512, .inl ga) := (nf 38 (by omega)).trans h5
    have q40 : ce1 39 = .inl (cI, 512, .inl gb) := (nf 39 (by omega)).trans h6
    have fr41 : ∀ j, j ≠ 34 → ce1 j = ce j := fun j g0 => (nf j g0)
    have no : ¬ PA a b bu := fun h => np ⟨h, rfl⟩
    refine lv_if_eq (tgt := 12) hx hb dM_different_7 (by decide) (fun c7 => ?_) (fun c7 => ?_)
    · skip
      exact absurd c7 (by decide +kernel)
    · skip
      refine lv_iconst (v := nI 0) hx hb dM_different_10 (by decide +kernel) ?_
      exact W.iret (v := (nI 0)) hx hb hr (fun t ht hW => ⟨⟨(nI 0), ce1, rfl, ⟨(fun j g0 g1 g2 g3 => fr41 j g0), ⟨cg9, q38⟩, Or.inl ⟨no, rfl, nz, q39, q40⟩⟩, by rw [ht]; exact hP, va_K.moved hW.alike hK, hD⟩, hS.F ht⟩) hS.2.2 dM_different_11

set_option maxHeartbeats 4000000 in
set_option maxRecDepth 100000 in
theorem c_M_most (l : Launch) (D : va_G) (cI cO cJ : ClassId) (N : Nat) (ad : Nat → Nat) (ce : Nat → va_E) (sz : Nat) (hN : 40 ≤ N) (th : Int32) (rs bu tl : Nat) (h0 : ce 34 = .inr (3, [.int (th), .ref (ad 35), .ref (ad 36), .ref (ad 37), .ref (ad 38), .ref (ad 39), .int (nI rs), .int (nI bu), .int (nI tl)])) (mt : Nat → Int32) (h2 : ce 36 = .inl (cI, 4000, .inl mt)) (f : Nat → Nat) (hmt : ∀ i, i < bu → mt i = nI (f i)) (hf : ∀ i, i < bu → f i < 512) (hbu : bu ≤ 4000) (cg9 : Nat → Int32) (h3 : ce 37 = .inl (cI, 512, .inl cg9)) (a b : Int32) : Met l yM_most (.code yM_most bM_most 5 (some .int) :: WA) ({ frames := 2, cells := 0, slots := 0, locals := 45 }) (PM D (TY cI cO cJ) N ad ce sz [.ref (ad 34), .int (a), .int (b)]) (va_Qi (fun (r : Int32) (ce1 : Nat → va_E) => (∀ j, j ≠ 34 → j ≠ 37 → ce1 j = ce j) ∧ (∃ g : Nat → Int32, ce1 37 = .inl (cI, 512, .inl g)) ∧ ((¬ PA a b bu ∧ r = nI 0 ∧ ce1 34 = .inr (3, [.int (nI 1), .ref (ad 35), .ref (ad 36), .ref (ad 37), .ref (ad 38), .ref (ad 39), .int (nI rs), .int (nI bu), .int (nI tl)])) ∨ (∃ u v o, u ≤ v ∧ v ≤ bu ∧ a = nI u ∧ b = nI v ∧ r = bI o ∧ MM f u v 512 o ∧ ce1 34 = .inr (3, [.int (nI 0), .ref (ad 35), .ref (ad 36), .ref (ad 37), .ref (ad 38), .ref (ad 39), .int (nI rs), .int (nI bu), .int (nI tl)])))) (BW D (TY cI cO cJ) N ad (AW N ad sz)) (AW N ad sz)) 0 0 (AW N ad sz) := by
  refine Met.ofW (cc := bM_most) (maxL := 5) (ret := (some .int)) (by decide) rfl ?_
  intro p e s m args below meth c s₁ B hml hv
  obtain ⟨rfl, hsz, hP, hK, hD0⟩ := hv
  have hx := B.exec
  have hb := B.bytes
  have hr := B.returns
  have hA9 : ∀ w ∈ WA, w.before _ s = true := fun w h => atoms_spec (ws := .code yM_most bM_most 5 (some .int) :: WA) B.pre w (List.mem_cons_of_mem _ h)
  have hown : s.vm.findClass RM = some m.cls := findClass_of_methodNamed B.named
  have hlocks := B.notSynchronized
  subst hsz
  have hD := aw_D (sz := s.heap.size) hD0
  generalize hAe : AW N ad s.heap.size = A at hD ⊢
  have hA : ∀ q, s.heap.size ≤ q → A q := fun q h => by rw [← hAe]; exact Or.inr h
  clear hAe hD0
  have hl := lv_entry ([.ref (ad 34), .int (a), .int (b)]) (n := 5) (Nat.le_of_ble_eq_true rfl)
  rw [lg_entry_eq]
  generalize (lg_sl ([.ref (ad 34), .int (a), .int (b)]) ++ List.replicate (5 - (lg_sl ([.ref (ad 34), .int (a), .int (b)])).length) Slot.unset).toArray = ls at hl ⊢
  have hl : lv_has ls 5 [(0, .ref (ad 34)), (1, .int (a)), (2, .int (b))] := hl
  refine st0 (A := A) (fun H locs hS hH => ?_)
  rw [← hH] at hP
  clear hH
  refine lv_aload_n hx hb dM_most_0 rfl (lv_at hl 0 rfl) ?_
  refine lv_iload_n hx hb dM_most_1 rfl (lv_at hl 1 rfl) ?_
  refine lv_iload_n hx hb dM_most_2 rfl (lv_at hl 2 rfl) ?_
  refine lv_iconst (v := nI (bN false)) hx hb dM_most_3 (by decide +kernel) ?_
  refine cvi (va_runV (As := [.int (a), .int (b), .int (nI (bN false))]) (rest := []) ⟨hx, hb, hml, hown, hA9⟩ (c_M_noPart l D cI cO cJ N ad ce H.size hN (th) rs bu tl h0 hbu (a) (b) false) (cwV 3 hA9 (gV mlM_42 miM_noPart msM_noPart mn_M mkM_noPart) rfl rfl rfl (by decide +kernel) ⟨Nat.le_of_ble_eq_true rfl, Nat.le_of_ble_eq_true rfl⟩) ⟨PM_bl, wx_recv hK hP (by omega) h0 rfl, PM_mk hK hP hD⟩ rfl rfl hl.1 rfl (lv_room (Nat.le_of_ble_eq_true rfl)) dM_most_4 ⟨Nat.le_of_ble_eq_true rfl, Nat.le_of_ble_eq_true rfl⟩) hS hD hA (fun r1 ce1 H locs hpost hP hD hS => ?_)
  obtain ⟨nf, ⟨pa, hm, rfl, nz⟩ | ⟨np, rfl, nz⟩⟩ := hpost
  · skip
    have q2 : ce1 36 = .inl (cI, 4000, .inl mt) := (nf 36 (by omega)).trans h2
    have q3 : ce1 37 = .inl (cI, 512, .inl cg9) := (nf 37 (by omega)).trans h3
    have fr4 : ∀ j, j ≠ 34 → ce1 j = ce j := fun j g0 => (nf j g0)
    obtain ⟨u, v, huv, hv, rfl, rfl⟩ := pa
    refine lv_if_eq (tgt := 12) hx hb dM_most_7 (by decide) (fun c7 => ?_) (fun c7 => ?_)
    · skip
      refine lv_aload_n hx hb dM_most_12 rfl (lv_at hl 0 rfl) ?_
      refine lv_iload_n hx hb dM_most_13 rfl (lv_at hl 1 rfl) ?_
      refine lv_iload_n hx hb dM_most_14 rfl (lv_at hl 2 rfl) ?_
      refine cv (va_runV (As := [.int (nI u), .int (nI v)]) (rest := []) ⟨hx, hb, hml, hown, hA9⟩ (c_M_counted l D cI cO cJ N ad ce1 H.size hN (nI 0) rs bu tl nz mt q2 f hmt hf hbu cg9 q3 u v huv hv) (cwV 2 hA9 (gV mlM_46 miM_counted msM_counted mn_M mkM_counted) rfl rfl rfl (by decide +kernel) ⟨Nat.le_of_ble_eq_true rfl, Nat.le_of_ble_eq_true rfl⟩) ⟨PM_bl, wx_recv hK hP (by omega) nz rfl, PM_mk hK hP hD⟩ rfl rfl hl.1 rfl (lv_room (Nat.le_of_ble_eq_true rfl)) dM_most_15 ⟨Nat.le_of_ble_eq_true rfl, Nat.le_of_ble_eq_true rfl⟩) hS hD hA (fun ce2 H locs hpost hP hD hS => ?_)
      obtain ⟨cf, cg, cz, ch⟩ := hpost
      have q6 : ce2 34 = .inr (3, [.int (nI 0), .ref (ad 35), .ref (ad 36), .ref (ad 37), .ref (ad 38), .ref (ad 39), .int (nI rs), .int (nI bu), .int (nI tl)]) := (cf 34 (by omega)).trans nz
      have q7 : ce2 36 = .inl (cI, 4000, .inl mt) := (cf 36 (by omega)).trans q2
      have fr8 : ∀ j, j ≠ 34 → j ≠ 37 → ce2 j = ce j := fun j g0 g1 => (cf j g1).trans (fr4 j g0)
      refine lv_iconst (v := bI none) hx hb dM_most_18 (by decide +kernel) ?_
      refine lv_istore_n (lv' := [(3, .int (bI none)), (0, .ref (ad 34)), (1, .int (nI u)), (2, .int (nI v))]) hx hb dM_most_19 rfl hl (by decide) rfl (fun ls hl => ?_)
      refine lv_iconst (v := nI 0) hx hb dM_most_20 (by decide +kernel) ?_
      refine lv_istore (lv' := [(4, .int (nI 0)), (3, .int (bI none)), (0, .ref (ad 34)), (1, .int (nI u)), (2, .int (nI v))]) hx hb dM_most_21 hl (by decide) rfl (fun ls hl => ?_)
      obtain ⟨w9, hw90⟩ : ∃ z : Nat, (0) = z := ⟨_, rfl⟩
      obtain ⟨o, ho0⟩ : ∃ z : Option Nat, (none) = z := ⟨_, rfl⟩
      replace hl : lv_has ls 5 [(4, .int (nI w9)), (3, .int (bI o)), (0, .ref (ad 34)), (1, .int (nI u)), (2, .int (nI v))] := by subst hw90 ho0; exact lv_sub hl [0, 1, 2, 3, 4] rfl
      have J : w9 ≤ 512 ∧ MM f u v w9 o := by subst hw90 ho0; exact ⟨by omega, MM.z⟩
      clear hw90
      clear ho0
      obtain ⟨k9, hk9⟩ : ∃ z9 : Nat, z9 = 512 - w9 := ⟨_, rfl⟩
      induction k9 using Nat.strongRecOn generalizing w9 o ls with
      | ind k9 ih =>
        obtain ⟨j1, j2⟩ := J
        have el := eq_le f w9 huv
        refine lv_iload hx hb dM_most_23 (lv_at hl 0 rfl) ?_
        refine lv_sipush (v := nI 512) hx hb dM_most_25 (by decide +kernel) ?_
        refine lv_icmp_ge (tgt := 70) hx hb dM_most_28 (by decide) (fun c28 => ?_) (fun c28 => ?_)
        · skip
          have d1 := leN c28
          have hw9 : w9 = 512 := by omega
          refine lv_iload_n hx hb dM_most_70 rfl (lv_at hl 1 rfl) ?_
          exact W.iret (v := (bI o)) hx hb hr (fun t ht hW => ⟨⟨(bI o), ce2, rfl, ⟨(fun j g0 g1 => fr8 j g0 g1), ⟨cg, cz⟩, Or.inr ⟨u, v, o, huv, hv, rfl, rfl, rfl, by rw [← hw9]; exact j2, q6⟩⟩, by rw [ht]; exact hP, va_K.moved hW.alike hK, hD⟩, hS.F ht⟩) hS.2.2 dM_most_71
        · skip
          have d1 := nleN c28
          refine lv_aload_n hx hb dM_most_31 rfl (lv_at hl 2 rfl) ?_
          refine va_get (D := D) (ci := 3) (v := .ref (ad 37)) (C := RM) (T := TM) (N := 9) hx hb hA9 inM hown hK hP 34 (wx_at (by omega) q6) rfl 3 (by decide) (hA9 _ mfM_20) (fun _ h9 => h9) rfl dM_most_32 ?_
          refine lv_iload hx hb dM_most_35 (lv_at hl 0 rfl) ?_
          refine va_iald hx hb hK hP 37 0 (wx_at (by omega) cz) rfl (inN) dM_most_37 ?_
          refine lv_topi (fun z9 ez9 => ?_)
          obtain rfl : z9 = nI (eq f w9 u v) := by rw [ez9, clN]; exact ch w9 (by omega)
          refine lv_if_le (tgt := 64) hx hb dM_most_38 (by decide) (fun c38 => ?_) (fun c38 => ?_)
          · skip
            have z1 : eq f w9 u v = 0 := Nat.le_zero.mp (leN (b := 0) (by rw [nI_0]; exact c38))
            have jn := j2.skip (Or.inl z1)
            refine lv_iinc (v := nI (w9 + 1)) (lv' := [(4, .int (nI (w9 + 1))), (3, .int (bI o)), (0, .ref (ad 34)), (1, .int (nI u)), (2, .int (nI v))]) hx hb dM_most_64 hl (k := 0) rfl (nI_1 w9) (by decide) rfl (fun ls hl => ?_)
            refine lv_goto (tgt := 23) hx hb dM_most_67 (by decide) ?_
            exact ih _ (by omega) (ls := ls) (w9 := w9 + 1) (o := o) (lv_sub hl [0, 1, 2, 3, 4] rfl) (⟨by omega, jn⟩) rfl
          · skip
            have z1 : 0 < eq f w9 u v := nleN (b := 0) (by rw [nI_0]; exact c38)
            refine lv_iload_n hx hb dM_most_41 rfl (lv_at hl 1 rfl) ?_
            refine lv_if_lt (tgt := 61) hx hb dM_most_42 (by decide) (fun c42 => ?_) (fun c42 => ?_)
            · skip
              have jn : MM f u v (w9 + 1) (some w9) := j2.take z1 (fun b9 hb9 => by
                subst hb9
                have bb9 : b9 < w9 := j2.1
                exact absurd c42 (nI_pos (by omega)))
              refine lv_iload hx hb dM_most_61 (lv_at hl 0 rfl) ?_
              refine lv_istore_n (lv' := [(3, .int (nI w9)), (4, .int (nI w9)), (0, .ref (ad 34)), (1, .int (nI u)), (2, .int (nI v))]) hx hb dM_most_63 rfl hl (by decide) rfl (fun ls hl => ?_)
              refine lv_iinc (v := nI (w9 + 1)) (lv' := [(4, .int (nI (w9 + 1))), (3, .int (nI w9)), (0, .ref (ad 34)), (1, .int (nI u)), (2, .int (nI v))]) hx hb dM_most_64 hl (k := 1) rfl (nI_1 w9) (by decide) rfl (fun ls hl => ?_)
              refine lv_goto (tgt := 23) hx hb dM_most_67 (by decide) ?_
              exact ih _ (by omega) (ls := ls) (w9 := w9 + 1) (o := some w9) (lv_sub hl [0, 1, 2, 3, 4] rfl) (⟨by omega, jn⟩) rfl
            · skip
              obtain ⟨b9, rfl⟩ : ∃ b9, o = some b9 := by
                cases o with
                | none => exact absurd (show (-1 : Int32) < 0 by decide +kernel) c42
                | some b9 => exact ⟨b9, rfl⟩
              have hb9 : b9 < w9 := j2.1
              have el2 := eq_le f b9 huv
              change lv_has ls 5 [(4, .int (nI w9)), (3, .int (nI b9)), (0, .ref (ad 34)), (1, .int (nI u)), (2, .int (nI v))] at hl
              refine lv_aload_n hx hb dM_most_45 rfl (lv_at hl 2 rfl) ?_
              refine va_get (D := D) (ci := 3) (v := .ref (ad 37)) (C := RM) (T := TM) (N := 9) hx hb hA9 inM hown hK hP 34 (wx_at (by omega) q6) rfl 3 (by decide) (hA9 _ mfM_20) (fun _ h9 => h9) rfl dM_most_46 ?_
              refine lv_iload hx hb dM_most_49 (lv_at hl 0 rfl) ?_
              refine va_iald hx hb hK hP 37 0 (wx_at (by omega) cz) rfl (inN) dM_most_51 ?_
              refine lv_topi (fun z10 ez10 => ?_)
              obtain rfl : z10 = nI (eq f w9 u v) := by rw [ez10, clN]; exact ch w9 (by omega)
              refine lv_aload_n hx hb dM_most_52 rfl (lv_at hl 2 rfl) ?_
              refine va_get (D := D) (ci := 3) (v := .ref (ad 37)) (C := RM) (T := TM) (N := 9) hx hb hA9 inM hown hK hP 34 (wx_at (by omega) q6) rfl 3 (by decide) (hA9 _ mfM_20) (fun _ h9 => h9) rfl dM_most_53 ?_
              refine lv_iload_n hx hb dM_most_56 rfl (lv_at hl 1 rfl) ?_
              refine va_iald hx hb hK hP 37 0 (wx_at (by omega) cz) rfl (inN) dM_most_57 ?_
              refine lv_topi (fun z11 ez11 => ?_)
              obtain rfl : z11 = nI (eq f b9 u v) := by rw [ez11, clN]; exact ch b9 (by omega)
              refine lv_icmp_le (tgt := 64) hx hb dM_most_58 (by decide) (fun c58 => ?_) (fun c58 => ?_)
              · skip
                have jn := j2.skip (Or.inr ⟨b9, rfl, leN c58⟩)
                refine lv_iinc (v := nI (w9 + 1)) (lv' := [(4, .int (nI (w9 + 1))), (3, .int (nI b9)), (0, .ref (ad 34)), (1, .int (nI u)), (2, .int (nI v))]) hx hb dM_most_64 hl (k := 0) rfl (nI_1 w9) (by decide) rfl (fun ls hl => ?_)
                refine lv_goto (tgt := 23) hx hb dM_most_67 (by decide) ?_
                exact ih _ (by omega) (ls := ls) (w9 := w9 + 1) (o := some b9) (lv_sub hl [0, 1, 2, 3, 4] rfl) (⟨by omega, jn⟩) rfl
              · skip
                have jn : MM f u v (w9 + 1) (some w9) := j2.take z1 (fun b8 hb8 => by cases hb8; exact nleN c58)
                refine lv_iload hx hb dM_most_61 (lv_at hl 0 rfl) ?_
                refine lv_istore_n (lv' := [(3, .int (nI w9)), (4, .int (nI w9)), (0, .ref (ad 34)), (1, .int (nI u)), (2, .int (nI v))]) hx hb dM_most_63 rfl hl (by decide) rfl (fun ls hl => ?_)
                refine lv_iinc (v := nI (w9 + 1)) (lv' := [(4, .int (nI (w9 + 1))), (3, .int (nI w9)), (0, .ref (ad 34)), (1, .int (nI u)), (2, .int (nI v))]) hx hb dM_most_64 hl (k := 1) rfl (nI_1 w9) (by decide) rfl (fun ls hl => ?_)
                refine lv_goto (tgt := 23) hx hb dM_most_67 (by decide) ?_
                exact ih _ (by omega) (ls := ls) (w9 := w9 + 1) (o := some w9) (lv_sub hl [0, 1, 2, 3, 4] rfl) (⟨by omega, jn⟩) rfl
    · skip
      exact absurd (show nI (bN false) = 0 from nI_0) c7
  · skip
    have q12 : ce1 36 = .inl (cI, 4000, .inl mt) := (nf 36 (by omega)).trans h2
    have q13 : ce1 37 = .inl (cI, 512, .inl cg9) := (nf 37 (by omega)).trans h3
    have fr14 : ∀ j, j ≠ 34 → ce1 j = ce j := fun j g0 => (nf j g0)
    have no : ¬ PA a b bu := fun h => np ⟨h, rfl⟩
    refine lv_if_eq (tgt := 12) hx hb dM_most_7 (by decide) (fun c7 => ?_) (fun c7 => ?_)
    · skip
      exact absurd c7 (by decide +kernel)
    · skip
      refine lv_iconst (v := nI 0) hx hb dM_most_10 (by decide +kernel) ?_
      exact W.iret (v := (nI 0)) hx hb hr (fun t ht hW => ⟨⟨(nI 0), ce1, rfl, ⟨(fun j g0 g1 => fr14 j g0), ⟨cg9, q13⟩, Or.inl ⟨no, rfl, nz⟩⟩, by rw [ht]; exact hP, va_K.moved hW.alike hK, hD⟩, hS.F ht⟩) hS.2.2 dM_most_11

set_option maxHeartbeats 4000000 in
set_option maxRecDepth 100000 in
theorem c_M_place (l : Launch) (D : va_G) (cI cO cJ : ClassId) (N : Nat) (ad : Nat → Nat) (ce : Nat → va_E) (sz : Nat) (hN : 40 ≤ N) (th : Int32) (rs bu tl : Nat) (h0 : ce 34 = .inr (3, [.int (th), .ref (ad 35), .ref (ad 36), .ref (ad 37), .ref (ad 38), .ref (ad 39), .int (nI rs), .int (nI bu), .int (nI tl)])) (mt : Nat → Int32) (h2 : ce 36 = .inl (cI, 4000, .inl mt)) (f : Nat → Nat) (hmt : ∀ i, i < bu → mt i = nI (f i)) (hf : ∀ i, i < bu → f i < 512) (hbu : bu ≤ 4000) (x kx : Int32) : Met l yM_place (.code yM_place bM_place 5 (some .int) :: WA) ({ frames := 1, cells := 0, slots := 0, locals := 22 }) (PM D (TY cI cO cJ) N ad ce sz [.ref (ad 34), .int (x), .int (kx)]) (va_Qi (fun (r : Int32) (ce1 : Nat → va_E) => (∀ j, j ≠ 34 → ce1 j = ce j) ∧ (((¬ ∃ y, y < 512 ∧ x = nI y) ∧ r = nI 0 ∧ ce1 34 = .inr (3, [.int (nI 1), .ref (ad 35), .ref (ad 36), .ref (ad 37), .ref (ad 38), .ref (ad 39), .int (nI rs), .int (nI bu), .int (nI tl)])) ∨ (∃ y, y < 512 ∧ x = nI y ∧ (¬ ∃ i, i < bu ∧ f i = y ∧ kx = nI (cn (fun j => decide (f j = y)) i)) ∧ r = nI 0 ∧ ce1 34 = .inr (3, [.int (nI 2), .ref (ad 35), .ref (ad 36), .ref (ad 37), .ref (ad 38), .ref (ad 39), .int (nI rs), .int (nI bu), .int (nI tl)])) ∨ (∃ y i, y < 512 ∧ x = nI y ∧ i < bu ∧ f i = y ∧ kx = nI (cn (fun j => decide (f j = y)) i) ∧ r = nI i ∧ ce1 34 = .inr (3, [.int (nI 0), .ref (ad 35), .ref (ad 36), .ref (ad 37), .ref (ad 38), .ref (ad 39), .int (nI rs), .int (nI bu), .int (nI tl)])))) (BW D (TY cI cO cJ) N ad (AW N ad sz)) (AW N ad sz)) 0 0 (AW N ad sz) := by
  refine Met.ofW (cc := bM_place) (maxL := 5) (ret := (some .int)) (by decide) rfl ?_
  intro p e s m args below meth c s₁ B hml hv
  obtain ⟨rfl, hsz, hP, hK, hD0⟩ := hv
  have hx := B.exec
  have hb := B.bytes
  have hr := B.returns
  have hA9 : ∀ w ∈ WA, w.before _ s = true := fun w h => atoms_spec (ws := .code yM_place bM_place 5 (some .int) :: WA) B.pre w (List.mem_cons_of_mem _ h)
  have hown : s.vm.findClass RM = some m.cls := findClass_of_methodNamed B.named
  have hlocks := B.notSynchronized
  subst hsz
  have hD := aw_D (sz := s.heap.size) hD0
  generalize hAe : AW N ad s.heap.size = A at hD ⊢
  have hA : ∀ q, s.heap.size ≤ q → A q := fun q h => by rw [← hAe]; exact Or.inr h
  clear hAe hD0
  have hl := lv_entry ([.ref (ad 34), .int (x), .int (kx)]) (n := 5) (Nat.le_of_ble_eq_true rfl)
  rw [lg_entry_eq]
  generalize (lg_sl ([.ref (ad 34), .int (x), .int (kx)]) ++ List.replicate (5 - (lg_sl ([.ref (ad 34), .int (x), .int (kx)])).length) Slot.unset).toArray = ls at hl ⊢
  have hl : lv_has ls 5 [(0, .ref (ad 34)), (1, .int (x)), (2, .int (kx))] := hl
  refine st0 (A := A) (fun H locs hS hH => ?_)
  rw [← hH] at hP
  clear hH
  refine lv_aload_n hx hb dM_place_0 rfl (lv_at hl 0 rfl) ?_
  refine lv_iconst (v := nI 0) hx hb dM_place_1 (by decide +kernel) ?_
  refine va_put (D := D) (ci := 3) (v := .int (nI 0)) (ty := .int) (C := RM) (T := TM) (N := 9) hx hb hA9 inM tyM tyM_ok nmM hown hK hP hD hS 34 (wx_at (by omega) h0) rfl 0 (by decide) (hA9 _ mfM_7) (fun _ h9 => h9) rfl (by decide +kernel) rfl rfl (Nat.le_of_ble_eq_true rfl) dM_place_2 (fun H locs hP hD hS => ?_)
  replace hP : va_P D CLS ((wx N ad ce).set 34 (ad 34, .inr (3, [.int (nI 0), .ref (ad 35), .ref (ad 36), .ref (ad 37), .ref (ad 38), .ref (ad 39), .int (nI rs), .int (nI bu), .int (nI tl)]))) H := hP
  replace hD : va_D A ((wx N ad ce).set 34 (ad 34, .inr (3, [.int (nI 0), .ref (ad 35), .ref (ad 36), .ref (ad 37), .ref (ad 38), .ref (ad 39), .int (nI rs), .int (nI bu), .int (nI tl)]))) := hD
  obtain ⟨ce1, hce1⟩ : ∃ z9, z9 = va_up ce 34 (.inr (3, [.int (nI 0), .ref (ad 35), .ref (ad 36), .ref (ad 37), .ref (ad 38), .ref (ad 39), .int (nI rs), .int (nI bu), .int (nI tl)])) := ⟨_, rfl⟩
  rw [wx_set (by omega), ← hce1] at hP hD
  have q1 : ce1 36 = .inl (cI, 4000, .inl mt) := by rw [hce1, va_up_ne _ _ (by omega)]; exact h2
  have q2 : ce1 34 = .inr (3, [.int (nI 0), .ref (ad 35), .ref (ad 36), .ref (ad 37), .ref (ad 38), .ref (ad 39), .int (nI rs), .int (nI bu), .int (nI tl)]) := by rw [hce1, va_up_self]
  have fr3 : ∀ j, j ≠ 34 → ce1 j = ce j := fun j h0 => by rw [hce1, va_up_ne _ _ h0]
  refine lv_aload_n hx hb dM_place_5 rfl (lv_at hl 0 rfl) ?_
  refine lv_iconst (v := nI 1) hx hb dM_place_6 (by decide +kernel) ?_
  refine lv_iload_n hx hb dM_place_7 rfl (lv_at hl 1 rfl) ?_
  refine lv_if_lt (tgt := 18) hx hb dM_place_8 (by decide) (fun c8 => ?_) (fun c8 => ?_)
  · skip
    have no : ¬ ∃ y, y < 512 ∧ x = nI y := fun ⟨y, q1, q2⟩ => neg_n c8 q2
    refine lv_iconst (v := nI (bN true)) hx hb dM_place_18 (by decide +kernel) ?_
    refine lv_goto (tgt := 23) hx hb dM_place_19 (by decide) ?_
    refine cvi (va_runV (As := [.int (nI 1), .int (nI (bN true))]) (rest := []) ⟨hx, hb, hml, hown, hA9⟩ (c_M_refuse l D cI cO cJ N ad ce1 H.size hN (nI 0) rs bu tl q2 1 true) (cwV 2 hA9 (gV mlM_38 miM_refuse msM_refuse mn_M mkM_refuse) rfl rfl rfl (by decide +kernel) ⟨Nat.le_of_ble_eq_true rfl, Nat.le_of_ble_eq_true rfl⟩) ⟨PM_bl, wx_recv hK hP (by omega) q2 rfl, PM_mk hK hP hD⟩ rfl rfl hl.1 rfl (lv_room (Nat.le_of_ble_eq_true rfl)) dM_place_23 ⟨Nat.le_of_ble_eq_true rfl, Nat.le_of_ble_eq_true rfl⟩) hS hD hA (fun r4 ce2 H locs hpost hP hD hS => ?_)
    obtain ⟨rfl, rf, rz⟩ := hpost
    have q5 : ce2 34 = .inr (3, [.int (nI 1), .ref (ad 35), .ref (ad 36), .ref (ad 37), .ref (ad 38), .ref (ad 39), .int (nI rs), .int (nI bu), .int (nI tl)]) := rz
    have q6 : ce2 36 = .inl (cI, 4000, .inl mt) := (rf 36 (by omega)).trans q1
    have fr7 : ∀ j, j ≠ 34 → ce2 j = ce j := fun j g0 => (rf j g0).trans (fr3 j g0)
    refine lv_if_eq (tgt := 31) hx hb dM_place_26 (by decide) (fun c26 => ?_) (fun c26 => ?_)
    · skip
      exact absurd c26 (by decide +kernel)
    · skip
      refine lv_iconst (v := nI 0) hx hb dM_place_29 (by decide +kernel) ?_
      exact W.iret (v := (nI 0)) hx hb hr (fun t ht hW => ⟨⟨(nI 0), ce2, rfl, ⟨(fun j g0 => fr7 j g0), Or.inl ⟨no, rfl, q5⟩⟩, by rw [ht]; exact hP, va_K.moved hW.alike hK, hD⟩, hS.F ht⟩) hS.2.2 dM_place_30
  · skip
    refine lv_iload_n hx hb dM_place_11 rfl (lv_at hl 1 rfl) ?_
    refine lv_sipush (v := nI 511) hx hb dM_place_12 (by decide +kernel) ?_
    refine lv_icmp_le (tgt := 22) hx hb dM_place_15 (by decide) (fun c15 => ?_) (fun c15 => ?_)
    · skip
      obtain ⟨y, hy, rfl⟩ := rg_mk c8 c15
      refine lv_iconst (v := nI (bN false)) hx hb dM_place_22 (by decide +kernel) ?_
      refine cvi (va_runV (As := [.int (nI 1), .int (nI (bN false))]) (rest := []) ⟨hx, hb, hml, hown, hA9⟩ (c_M_refuse l D cI cO cJ N ad ce1 H.size hN (nI 0) rs bu tl q2 1 false) (cwV 2 hA9 (gV mlM_38 miM_refuse msM_refuse mn_M mkM_refuse) rfl rfl rfl (by decide +kernel) ⟨Nat.le_of_ble_eq_true rfl, Nat.le_of_ble_eq_true rfl⟩) ⟨PM_bl, wx_recv hK hP (by omega) q2 rfl, PM_mk hK hP hD⟩ rfl rfl hl.1 rfl (lv_room (Nat.le_of_ble_eq_true rfl)) dM_place_23 ⟨Nat.le_of_ble_eq_true rfl, Nat.le_of_ble_eq_true rfl⟩) hS hD hA (fun r8 ce2 H locs hpost hP hD hS => ?_)
      obtain ⟨rfl, rf, rz⟩ := hpost
      have q9 : ce2 34 = .inr (3, [.int (nI 0), .ref (ad 35), .ref (ad 36), .ref (ad 37), .ref (ad 38), .ref (ad 39), .int (nI rs), .int (nI bu), .int (nI tl)]) := rz
      have q10 : ce2 36 = .inl (cI, 4000, .inl mt) := (rf 36 (by omega)).trans q1
      have fr11 : ∀ j, j ≠ 34 → ce2 j = ce j := fun j g0 => (rf j g0).trans (fr3 j g0)
      refine lv_if_eq (tgt := 31) hx hb dM_place_26 (by decide) (fun c26 => ?_) (fun c26 => ?_)
      · skip
        refine lv_iconst (v := nI 0) hx hb dM_place_31 (by decide +kernel) ?_
        refine lv_istore_n (lv' := [(3, .int (nI 0)), (0, .ref (ad 34)), (1, .int (nI y)), (2, .int (kx))]) hx hb dM_place_32 rfl hl (by decide) rfl (fun ls hl => ?_)
        refine lv_iconst (v := nI 0) hx hb dM_place_33 (by decide +kernel) ?_
        refine lv_istore (lv' := [(4, .int (nI 0)), (3, .int (nI 0)), (0, .ref (ad 34)), (1, .int (nI y)), (2, .int (kx))]) hx hb dM_place_34 hl (by decide) rfl (fun ls hl => ?_)
        obtain ⟨i, hi0⟩ : ∃ z : Nat, (0) = z := ⟨_, rfl⟩
        replace hl : lv_has ls 5 [(4, .int (nI i)), (3, .int (nI (cn (fun j => decide (f j = y)) i))), (0, .ref (ad 34)), (1, .int (nI y)), (2, .int (kx))] := by subst hi0; exact lv_sub hl [0, 1, 2, 3, 4] rfl
        have J : i ≤ bu ∧ ∀ t, t < i → f t = y → kx ≠ nI (cn (fun j => decide (f j = y)) t) := by subst hi0; exact ⟨by omega, fun t ht => absurd ht (by omega)⟩
        clear hi0
        obtain ⟨k9, hk9⟩ : ∃ z9 : Nat, z9 = bu - i := ⟨_, rfl⟩
        induction k9 using Nat.strongRecOn generalizing i ls with
        | ind k9 ih =>
          obtain ⟨j1, j2⟩ := J
          have cle := cn_le (fun j => decide (f j = y)) i
          refine lv_iload hx hb dM_place_36 (lv_at hl 0 rfl) ?_
          refine lv_aload_n hx hb dM_place_38 rfl (lv_at hl 2 rfl) ?_
          refine va_get (D := D) (ci := 3) (v := .int (nI bu)) (C := RM) (T := TM) (N := 9) hx hb hA9 inM hown hK hP 34 (wx_at (by omega) q9) rfl 7 (by decide) (hA9 _ mfM_32) (fun _ h9 => h9) rfl dM_place_39 ?_
          refine lv_icmp_ge (tgt := 76) hx hb dM_place_42 (by decide) (fun c42 => ?_) (fun c42 => ?_)
          · skip
            have d2 := leN c42
            have hib : i = bu := by omega
            refine lv_aload_n hx hb dM_place_76 rfl (lv_at hl 2 rfl) ?_
            refine lv_iconst (v := nI 2) hx hb dM_place_77 (by decide +kernel) ?_
            refine lv_iconst (v := nI (bN true)) hx hb dM_place_78 (by decide +kernel) ?_
            refine cvi (va_runV (As := [.int (nI 2), .int (nI (bN true))]) (rest := []) ⟨hx, hb, hml, hown, hA9⟩ (c_M_refuse l D cI cO cJ N ad ce2 H.size hN (nI 0) rs bu tl q9 2 true) (cwV 2 hA9 (gV mlM_38 miM_refuse msM_refuse mn_M mkM_refuse) rfl rfl rfl (by decide +kernel) ⟨Nat.le_of_ble_eq_true rfl, Nat.le_of_ble_eq_true rfl⟩) ⟨PM_bl, wx_recv hK hP (by omega) q9 rfl, PM_mk hK hP hD⟩ rfl rfl hl.1 rfl (lv_room (Nat.le_of_ble_eq_true rfl)) dM_place_79 ⟨Nat.le_of_ble_eq_true rfl, Nat.le_of_ble_eq_true rfl⟩) hS hD hA (fun r12 ce3 H locs hpost hP hD hS => ?_)
            obtain ⟨rfl, rf, rz⟩ := hpost
            have q13 : ce3 34 = .inr (3, [.int (nI 2), .ref (ad 35), .ref (ad 36), .ref (ad 37), .ref (ad 38), .ref (ad 39), .int (nI rs), .int (nI bu), .int (nI tl)]) := rz
            have q14 : ce3 36 = .inl (cI, 4000, .inl mt) := (rf 36 (by omega)).trans q10
            have fr15 : ∀ j, j ≠ 34 → ce3 j = ce j := fun j g0 => (rf j g0).trans (fr11 j g0)
            refine lv_pop hx hb dM_place_82 rfl ?_
            refine lv_iconst (v := nI 0) hx hb dM_place_83 (by decide +kernel) ?_
            exact W.iret (v := (nI 0)) hx hb hr (fun t ht hW => ⟨⟨(nI 0), ce3, rfl, ⟨(fun j g0 => fr15 j g0), Or.inr (Or.inl ⟨y, by omega, rfl, fun ⟨t, q1, q2, q3⟩ => j2 t (by omega) q2 q3, rfl, q13⟩)⟩, by rw [ht]; exact hP, va_K.moved hW.alike hK, hD⟩, hS.F ht⟩) hS.2.2 dM_place_84
          · skip
            have d2 := nleN c42
            have hfk := hf i (by omega)
            refine lv_aload_n hx hb dM_place_45 rfl (lv_at hl 2 rfl) ?_
            refine va_get (D := D) (ci := 3) (v := .ref (ad 36)) (C := RM) (T := TM) (N := 9) hx hb hA9 inM hown hK hP 34 (wx_at (by omega) q9) rfl 2 (by decide) (hA9 _ mfM_17) (fun _ h9 => h9) rfl dM_place_46 ?_
            refine lv_iload hx hb dM_place_49 (lv_at hl 0 rfl) ?_
            refine va_iald hx hb hK hP 36 0 (wx_at (by omega) q10) rfl (inN) dM_place_51 ?_
            refine lv_topi (fun z16 ez16 => ?_)
            obtain rfl : z16 = nI (f i) := by rw [ez16, clN]; exact hmt i (by omega)
            refine lv_iload_n hx hb dM_place_52 rfl (lv_at hl 3 rfl) ?_
            refine lv_icmp_eq (tgt := 59) hx hb dM_place_53 (by decide) (fun c53 => ?_) (fun c53 => ?_)
            · skip
              have he := eqN c53
              refine lv_iload_n hx hb dM_place_59 rfl (lv_at hl 1 rfl) ?_
              refine lv_iload_n hx hb dM_place_60 rfl (lv_at hl 4 rfl) ?_
              refine lv_icmp_ne (tgt := 67) hx hb dM_place_61 (by decide) (fun c61 => ?_) (fun c61 => ?_)
              · skip
                have jn : ∀ t, t < i + 1 → f t = y → kx ≠ nI (cn (fun j => decide (f j = y)) t) := fun t ht ft => if h9 : t = i then (by rw [h9]; exact Ne.symm c61) else j2 t (by omega) ft
                refine lv_iinc (v := nI (cn (fun j => decide (f j = y)) (i + 1))) (lv' := [(3, .int (nI (cn (fun j => decide (f j = y)) (i + 1)))), (4, .int (nI i)), (0, .ref (ad 34)), (1, .int (nI y)), (2, .int (kx))]) hx hb dM_place_67 hl (k := 1) rfl ((nI_1 _).trans (congrArg nI (cn_t (p := fun j => decide (f j = y)) (n := i) (by simpa using he)).symm)) (by decide) rfl (fun ls hl => ?_)
                refine lv_iinc (v := nI (i + 1)) (lv' := [(4, .int (nI (i + 1))), (3, .int (nI (cn (fun j => decide (f j = y)) (i + 1)))), (0, .ref (ad 34)), (1, .int (nI y)), (2, .int (kx))]) hx hb dM_place_70 hl (k := 1) rfl (nI_1 i) (by decide) rfl (fun ls hl => ?_)
                refine lv_goto (tgt := 36) hx hb dM_place_73 (by decide) ?_
                exact ih _ (by omega) (ls := ls) (i := i + 1) (lv_sub hl [0, 1, 2, 3, 4] rfl) (⟨by omega, jn⟩) rfl
              · skip
                refine lv_iload hx hb dM_place_64 (lv_at hl 0 rfl) ?_
                exact W.iret (v := (nI i)) hx hb hr (fun t ht hW => ⟨⟨(nI i), ce2, rfl, ⟨(fun j g0 => fr11 j g0), Or.inr (Or.inr ⟨y, i, by omega, rfl, d2, he, c61.symm, rfl, q9⟩)⟩, by rw [ht]; exact hP, va_K.moved hW.alike hK, hD⟩, hS.F ht⟩) hS.2.2 dM_place_66
            · skip
              have he := neN c53
              rw [← cn_f (p := fun j => decide (f j = y)) (n := i) (by simpa using he)] at hl
              have jn : ∀ t, t < i + 1 → f t = y → kx ≠ nI (cn (fun j => decide (f j = y)) t) := fun t ht ft => if h9 : t = i then absurd (h9 ▸ ft) he else j2 t (by omega) ft
              refine lv_goto (tgt := 70) hx hb dM_place_56 (by decide) ?_
              refine lv_iinc (v := nI (i + 1)) (lv' := [(4, .int (nI (i + 1))), (3, .int (nI (cn (fun j => decide (f j = y)) (i + 1)))), (0, .ref (ad 34)), (1, .int (nI y)), (2, .int (kx))]) hx hb dM_place_70 hl (k := 0) rfl (nI_1 i) (by decide) rfl (fun ls hl => ?_)
              refine lv_goto (tgt := 36) hx hb dM_place_73 (by decide) ?_
              exact ih _ (by omega) (ls := ls) (i := i + 1) (lv_sub hl [0, 1, 2, 3, 4] rfl) (⟨by omega, jn⟩) rfl
      · skip
        exact absurd (show nI (bN false) = 0 from nI_0) c26
    · skip
      have no : ¬ ∃ y, y < 512 ∧ x = nI y := fun ⟨y, q1, q2⟩ => c15 (by rw [q2]; exact nI_le (by omega) (by omega))
      refine lv_iconst (v := nI (bN true)) hx hb dM_place_18 (by decide +kernel) ?_
      refine lv_goto (tgt := 23) hx hb dM_place_19 (by decide) ?_
      refine cvi (va_runV (As := [.int (nI 1), .int (nI (bN true))]) (rest := []) ⟨hx, hb, hml, hown, hA9⟩ (c_M_refuse l D cI cO cJ N ad ce1 H.size hN (nI 0) rs bu tl q2 1 true) (cwV 2 hA9 (gV mlM_38 miM_refuse msM_refuse mn_M mkM_refuse) rfl rfl rfl (by decide +kernel) ⟨Nat.le_of_ble_eq_true rfl, Nat.le_of_ble_eq_true rfl⟩) ⟨PM_bl, wx_recv hK hP (by omega) q2 rfl, PM_mk hK hP hD⟩ rfl rfl hl.1 rfl (lv_room (Nat.le_of_ble_eq_true rfl)) dM_place_23 ⟨Nat.le_of_ble_eq_true rfl, Nat.le_of_ble_eq_true rfl⟩) hS hD hA (fun r17 ce2 H locs hpost hP hD hS => ?_)
      obtain ⟨rfl, rf, rz⟩ := hpost
      have q18 : ce2 34 = .inr (3, [.int (nI 1), .ref (ad 35), .ref (ad 36), .ref (ad 37), .ref (ad 38), .ref (ad 39), .int (nI rs), .int (nI bu), .int (nI tl)]) := rz
      have q19 : ce2 36 = .inl (cI, 4000, .inl mt) := (rf 36 (by omega)).trans q1
      have fr20 : ∀ j, j ≠ 34 → ce2 j = ce j := fun j g0 => (rf j g0).trans (fr3 j g0)
      refine lv_if_eq (tgt := 31) hx hb dM_place_26 (by decide) (fun c26 => ?_) (fun c26 => ?_)
      · skip
        exact absurd c26 (by decide +kernel)
      · skip
        refine lv_iconst (v := nI 0) hx hb dM_place_29 (by decide +kernel) ?_
        exact W.iret (v := (nI 0)) hx hb hr (fun t ht hW => ⟨⟨(nI 0), ce2, rfl, ⟨(fun j g0 => fr20 j g0), Or.inl ⟨no, rfl, q18⟩⟩, by rw [ht]; exact hP, va_K.moved hW.alike hK, hD⟩, hS.F ht⟩) hS.2.2 dM_place_30
end
section
/-! methods that may throw -/
abbrev eI : String := "java/lang/IllegalArgumentException"
abbrev eN : String := "java/util/NoSuchElementException"
abbrev eR : List String := ["java/lang/RuntimeException", "java/lang/Exception"]
/-- what holds of the start and stays: two statics of Throwable, the texts, casts -/
def EV (A : Nat → Prop) (U : State) (H : Heap) : Prop := vx_Zq Bundle.tN "UNASSIGNED_STACK" Bundle.steD A U H ∧ vx_Zq Bundle.tN "SUPPRESSED_SENTINEL" Bundle.listD A U H ∧
  (∃ a, vk_R RL 39 "not a length within the row" a U) ∧ (∃ a, vk_R RL 52 "no such place" a U) ∧ (∃ a, vk_R RL 92 "not a number of the range" a U) ∧ (∃ a, vk_R RL 94 "not a part of the tree" a U) ∧ (∃ a, vk_R RL 70 "it does not stand there so often" a U) ∧ (∃ a, vk_R RL 76 "the part has not so many" a U) ∧ (∃ a, vk_R RL 90 "not so many different numbers" a U) ∧
  va_Nw (.castable eI eI) U ∧ va_Nw (.castable eN eN) U ∧ va_Nc eN eI U ∧ va_Nw (.declares (Bundle.initS "java/lang/RuntimeException")) U ∧ va_Nw (.declares (Bundle.initS "java/lang/Exception")) U ∧ va_Nw (.declares (Bundle.initS Bundle.tN)) U
theorem EV.warm {A B : Nat → Prop} {s U : State} {H H1 : Heap} (h : EV A s H) (hW : s.WarmedH U.vm) (hq : ∀ a : Nat, a < H.size → ¬ A a → H1[a]? = H[a]?) (hAB : ∀ q, B q → A q) : EV B U H1 := by
  obtain ⟨h1, h2, ⟨a1, s1⟩, ⟨a2, s2⟩, ⟨a3, s3⟩, ⟨a4, s4⟩, ⟨a5, s5⟩, ⟨a6, s6⟩, ⟨a7, s7⟩, c1, c2, c3, c4, c5, c6⟩ := h
  exact ⟨((h1.kept hq).moved hW.alike).narrow hAB, ((h2.kept hq).moved hW.alike).narrow hAB, ⟨a1, s1.warm hW⟩, ⟨a2, s2.warm hW⟩, ⟨a3, s3.warm hW⟩, ⟨a4, s4.warm hW⟩, ⟨a5, s5.warm hW⟩, ⟨a6, s6.warm hW⟩, ⟨a7, s7.warm hW⟩, va_Nw.warmC hW c1, va_Nw.warmC hW c2, c3.moved hW.alike, va_Nw.warmD hW c4, va_Nw.warmD hW c5, va_Nw.warmD hW c6⟩
def PX (D : va_G) (ty : List (ClassId × FieldType)) (N : Nat) (ad : Nat → Nat) (ce : Nat → va_E) (sz : Nat) (av : List Value) : Array Value → State → Prop := va_Pc av (fun U => U.heap.size = sz ∧ va_P D CLS (wx N ad ce) U.heap ∧ va_K D CLS ty U ∧ va_D (fun _ => True) (wx N ad ce) ∧ EV (AW N ad sz) U U.heap)
theorem PX_bl {D : va_G} {ty : List (ClassId × FieldType)} {N : Nat} {ad : Nat → Nat} {ce : Nat → va_E} {sz : Nat} {av : List Value} : FrameBlind (PX D ty N ad ce sz av) := fun a U g mk q => ⟨q.1, q.2.1, q.2.2.1, va_K.moved (u := U) (U := U.calling g mk a) (Vm.Alike.refl U.vm) q.2.2.2.1, q.2.2.2.2.1, EV.warm (U := U.calling g mk a) q.2.2.2.2.2 (State.WarmedH.refl U) (fun _ _ _ => rfl) (fun _ h => h)⟩
theorem PX_mk {D : va_G} {ty : List (ClassId × FieldType)} {N : Nat} {ad : Nat → Nat} {ce : Nat → va_E} {av : List Value} {s : State} {H : Heap} {A : Nat → Prop} {locs : List Loc} (hK : va_K D CLS ty s) (hP : va_P D CLS (wx N ad ce) H) (hD : va_D A (wx N ad ce)) (hE : EV A s s.heap) (hS : va_S A s.heap H locs) (hA : ∀ q, s.heap.size ≤ q → A q) : ∀ U : State, U.heap = H → s.WarmedH U.vm → PX D ty N ad ce H.size av av.toArray U := fun U hU hW => ⟨rfl, by rw [hU], by rw [hU]; exact hP, va_K.moved hW.alike hK, hD.weaken (fun _ _ _ _ => trivial), by rw [hU]; exact EV.warm hE hW hS.2.1 (aw_in hD hS hA)⟩
/-- thrown: the class by its name, nothing old changed -/
def XK (P : String → Prop) : String → State → State → Prop := vx_X (fun _ : Unit => True) (fun E _ _ => P E) (fun _ => False)
theorem mx_I : ∀ w ∈ (vx_atS RL 41 eI eR).filter goodWord, w ∈ WA := fun w h => List.mem_filter.mpr ⟨(by decide +kernel : ∀ w ∈ (vx_atS RL 41 eI eR).filter goodWord, w ∈ lw_tbl) w h, (List.mem_filter.mp h).2⟩

/-- the words of 'throw new NoSuchElementException(text)': its constructor names the next one by entry 13 -/
def nAt : List Cond := Bundle.throwableAtoms ++ Bundle.throwableSAtoms ++ (Bundle.passSAtoms eN "java/lang/RuntimeException" 13 prog_15_method_4_code ++ Bundle.chainSAtoms "java/lang/RuntimeException" ["java/lang/Exception"]) ++
  [.methodLink RL 54 (Bundle.initS eN), .instantiable eN 6, .castable eN eN, .selects eN Bundle.tFill0 Bundle.tFill0, .selects eN Bundle.tFill Bundle.tFill,
   .lays eN Bundle.tN "cause" "Ljava/lang/Throwable;", .lays eN Bundle.tN "stackTrace" Bundle.steD, .lays eN Bundle.tN "suppressedExceptions" Bundle.listD, .lays eN Bundle.tN "detailMessage" "Ljava/lang/String;",
   .isRef (.static Bundle.tN "UNASSIGNED_STACK" Bundle.steD), .isRef (.static Bundle.tN "SUPPRESSED_SENTINEL" Bundle.listD),
   .fieldLink Bundle.tN 198 Bundle.tN "backtrace" "Ljava/lang/Object;", .lays Bundle.tN Bundle.tN "backtrace" "Ljava/lang/Object;", .lays eN Bundle.tN "backtrace" "Ljava/lang/Object;"]
def nAtS : List Cond := nAt.filter vx_no
theorem nA1 {w : Cond} (h : w ∈ Bundle.throwableAtoms) : w ∈ nAt := List.mem_append_left _ (List.mem_append_left _ (List.mem_append_left _ h))
theorem nA2 {w : Cond} (h : w ∈ Bundle.throwableSAtoms) : w ∈ nAt := List.mem_append_left _ (List.mem_append_left _ (List.mem_append_right _ h))
theorem nA3 {w : Cond} (h : w ∈ Bundle.passSAtoms eN "java/lang/RuntimeException" 13 prog_15_method_4_code) : w ∈ nAt := List.mem_append_left _ (List.mem_append_right _ (List.mem_append_left _ h))
theorem nA4 {w : Cond} (h : w ∈ Bundle.chainSAtoms "java/lang/RuntimeException" ["java/lang/Exception"]) : w ∈ nAt := List.mem_append_left _ (List.mem_append_right _ (List.mem_append_right _ h))
theorem mx_N : ∀ w ∈ nAtS.filter goodWord, w ∈ WA := fun w h => List.mem_filter.mpr ⟨(by decide +kernel : ∀ w ∈ nAtS.filter goodWord, w ∈ lw_tbl) w h, (List.mem_filter.mp h).2⟩
section
variable {p : Program} {l : Launch} {e : Env} {R : Room} {s : State} {m₀ : MethodId} {args : Array Value} {below : List Frame} {meth : Method} {c : Code} {W9 : State} {locs : List Loc} {cells slots : Nat}
set_option maxHeartbeats 4000000 in
/-- its constructor runs, and the object is thrown out of the method -/
theorem nse_ctor (X : Stand p l e R s m₀ args below meth c W9 locs cells slots) (hexec : p.tables.exec = Jvm.exec) (htr : e.platform.stackTraces = false)
    (hown : s.vm.findClass RL = some m₀.cls) (h : ∀ w ∈ nAt, w.before args s = true) (hlocs : ∀ x ∈ locs, ∀ cell, s.heap[x.base]? = some cell → cell.vm.isStatics = false)
    {a : Addr} {cX : ClassId} {kX : Class} (hfX : s.vm.findClass eN = some cX) (hkX : s.vm.classes[cX]? = some kX) (hcell : W9.heap[a]? = some (freshCell cX kX)) (hnew : s.heap.size ≤ a) {msg : Value} (hmsg : msg.isRef = true)
    {g : JFrame} (hg : g.method = m₀) (hsize : g.locals.size = c.maxLocals) (hlocked : g.locked = none) (hentered : g.entered = []) {rest : List Value} (hstack : g.stack = msg :: .ref a :: .ref a :: rest)
    (hd6 : decode c.code g.pc = .ok (.invokespecial 54, 3)) (hd9 : decode c.code (g.pc + 3) = .ok (.athrow, 1)) (hout : ∀ x ∈ c.exceptionTable.toList, covers x (g.pc + 3) = false)
    (hRf : 5 < R.frames) (hRl : 2 * g.monitorRoom + ((Value.ref a :: rest).map fun v => v.category).sum + 81 ≤ R.locals) (hlocks : meth.locks = false) :
    ∃ U : State, Steps p.tables e below (W9.setTop g) U ∧ U.status = .running ∧ Ended U below (.threw a) ∧ s.WarmedH U.vm ∧ s.sameButNew ({ U with vm := s.vm } : State) locs cells slots ∧ ∃ ce, U.heap[a]? = some ce ∧ ce.vm = .none ∧ s.vm.findClass eN = some ce.cls := by
  have howns : e.platform.frameOwnsMonitors = true := by rw [X.admits.platform]
  have hfin : e.platform.finalization = false := by rw [X.admits.platform]
  have hpl : e.platform.magicAccessors = ({} : Platform).magicAccessors := by rw [X.admits.platform]
  have tl : ∀ {w : Cond}, w ∈ nAt → w.holds args s none s [] = true := fun hw => h _ hw
  obtain ⟨T, Z0, L, -, Y⟩ := ThrowableC.of_atoms (args := args) howns hfin hpl (fun w hw => h w (nA1 hw))
  obtain ⟨Z, M, LZ, LM, hnZ⟩ := Init0T.ofS_atoms (args := args) hpl L Y (fun w hw => h w (nA2 hw))
  obtain ⟨P2, Ps, hlen, L2, hL, hP2m, hlk2, hlk3⟩ := Bundle.chainS (args := args) hpl hnZ ["java/lang/Exception"] "java/lang/RuntimeException" (by decide +kernel) (by decide +kernel) (fun w hw => h w (nA4 hw))
  obtain ⟨P1, L1, hP1m, hP1s⟩ := PassC.ofS_atoms (args := args) (s := s) hpl (X := eN) (Y := "java/lang/RuntimeException") (index := 13) (bytes := prog_15_method_4_code) (by decide +kernel) (by decide) (by decide +kernel) (by decide +kernel) (by decide +kernel) (by decide +kernel) (fun w hw => h w (nA3 hw))
  have hfd : s.vm.findClass eN = some P1.m.cls := findClass_of_methodNamed hP1m
  cases Option.some.inj (hfX.symm.trans hfd)
  obtain ⟨c1, kX', hc1, hk, hord, -, -, hn6⟩ := Cond.instantiable_spec (tl (w := .instantiable eN 6) (by simp [nAt]))
  cases Option.some.inj (hc1.symm.trans hfd)
  cases Option.some.inj (hkX.symm.trans hk)
  have sel : ∀ {y : MethodName} {i : MethodId}, (Cond.selects eN y y) ∈ nAt → s.methodNamed? y = some i → (y.cls ≠ "java/lang/invoke/MethodHandle" ∧ y.cls ≠ "java/lang/invoke/VarHandle") → selectMethod e.platform s.vm P1.m.cls i = .method i := fun hw hn hy => by
    obtain ⟨c2, r2, m2, q1, q2, q3, q4, -⟩ := Cond.selects_spec (tl hw)
    cases Option.some.inj (q1.symm.trans hfd)
    cases Option.some.inj (q2.symm.trans (State.methodFound?_of_named hn hy))
    cases Option.some.inj (q3.symm.trans hn)
    rw [Launch.admits_selectMethod X.admits]; exact q4
  have hsel0 := sel (y := Bundle.tFill0) (by simp [nAt]) Y.fill0 (by decide)
  have hselF := sel (y := Bundle.tFill) (by simp [nAt]) Y.fill (by decide)
  obtain ⟨cs0, hcs0, hiss⟩ := Y.statics
  obtain ⟨u0, hu0⟩ := Cond.staticRefV Y.unassigned L.unassignedStatic L.statics hcs0 hiss (tl (w := .isRef (.static Bundle.tN "UNASSIGNED_STACK" Bundle.steD)) (by simp [nAt]))
  obtain ⟨sen, hsen⟩ := Cond.staticRefV Y.sentinel L.sentinelStatic L.statics hcs0 hiss (tl (w := .isRef (.static Bundle.tN "SUPPRESSED_SENTINEL" Bundle.listD)) (by simp [nAt]))
  obtain ⟨ci198, i198, fB, hk198, hg198, ha198, hsB, -, hnB, htB, hffB⟩ := Cond.ownField (t := .object "java/lang/Object") Y.found L.cls (by decide +kernel) (tl (w := .fieldLink Bundle.tN 198 Bundle.tN "backtrace" "Ljava/lang/Object;") (by simp [nAt])) (tl (w := .lays Bundle.tN Bundle.tN "backtrace" "Ljava/lang/Object;") (by simp [nAt])) e.platform hpl
  obtain ⟨cs1, hcs1, he1, -, hkp⟩ := X.same.2.2.2.2.2 T.aS cs0 hcs0
  have hcs : W9.heap[T.aS]? = some cs1 := hcs1
  have hoff : ∀ i, (⟨T.aS, i⟩ : Loc) ∉ locs := fun i hm => by
    have := hlocs _ hm cs0 hcs0
    rw [hiss] at this; cases this
  have hkn : cs1.vm ≠ .unknown := by
    rw [he1]; intro hu
    rw [show cs0.vm = .unknown from hu] at hiss
    cases hiss
  have hne : T.aS ≠ a := Nat.ne_of_lt (Nat.lt_of_lt_of_le (Array.getElem?_eq_some_iff.mp hcs0).1 hnew)
  obtain ⟨iM, hffM⟩ := Y.msg
  obtain ⟨tyC, dC, hdC, hdnC⟩ := Cond.laysAt hfd hk Y.cause (tl (w := .lays eN Bundle.tN "cause" "Ljava/lang/Throwable;") (by simp [nAt]))
  obtain ⟨tyS, dS, hdS, hdnS⟩ := Cond.laysAt hfd hk Y.stack (tl (w := .lays eN Bundle.tN "stackTrace" Bundle.steD) (by simp [nAt]))
  obtain ⟨tyP, dP, hdP, hdnP⟩ := Cond.laysAt hfd hk Y.supp (tl (w := .lays eN Bundle.tN "suppressedExceptions" Bundle.listD) (by simp [nAt]))
  obtain ⟨tyM, dM, hdM, hdnM⟩ := Cond.laysAt hfd hk hffM (tl (w := .lays eN Bundle.tN "detailMessage" "Ljava/lang/String;") (by simp [nAt]))
  obtain ⟨tyB, dB, hdB, hdnB⟩ := Cond.laysAt hfd hk hffB (tl (w := .lays eN Bundle.tN "backtrace" "Ljava/lang/Object;") (by simp [nAt]))
  have bC := Cond.laysApart hdB hdC hdnB hdnC (by rw [hnB, Y.causeName]; decide)
  have bS := Cond.laysApart hdB hdS hdnB hdnS (by rw [hnB, Y.stackName]; decide)
  have bP := Cond.laysApart hdB hdP hdnB hdnP (by rw [hnB, Y.suppName]; decide)
  have hskip : SkipFacts T e.platform s (fun u => u) u0 ((preparedCellV T.toThrowableT (freshCell P1.m.cls kX) a u0 sen).withEntry W9.cur) :=
    ⟨{ ci198 := ci198, i198 := i198, fBack := fB }, ⟨hk198, hg198, ha198, hsB⟩, by
      have q := fresh_default (c := P1.m.cls) tyB
      rw [htB] at q
      simpa [preparedCellV, Cell.setSlot, Cell.withEntry, Array.getElem?_setIfInBounds, bC, bS, bP, bC.symm, bS.symm, bP.symm, defaultValue] using q, fun _ _ => rfl⟩
  obtain ⟨tm, methC, cdC, kC, vm₁, hnC, -, -, -, -, -, -, -, hW₁, st1⟩ := Steps.initColdS (tb := p.tables) (e := e) (below := below) (s := s) (U := W9) X.here hexec X.warmed hpl hown (t := Bundle.initS eN) rfl rfl (by decide)
    (tl (w := .methodLink RL 54 (Bundle.initS eN)) (by simp [nAt])) (h (.instanceMethod (Bundle.initS eN)) (nA3 (by simp [Bundle.passSAtoms]))) (bytes := prog_15_method_4_code) (maxL := 2) (h (.code (Bundle.initS eN) prog_15_method_4_code 2 none) (nA3 (by simp [Bundle.passSAtoms])))
    (f := g) hg (a := a) (msg := msg) (rest := .ref a :: rest) hstack hd6
  cases Option.some.inj (hnC.symm.trans hP1m)
  have X₁ := X.noted hW₁
  have hl1 : Ps.length = 1 := hlen
  obtain ⟨vm₂, X₂, st2⟩ := X₁.ctorMessageOffV hexec (g := { g with stack := .ref a :: rest }) hg hsize T L Z LZ M LM (P1 :: P2 :: Ps)
    (fun P hP => by
      rcases List.mem_cons.mp hP with rfl | hP
      · exact L1
      · rcases List.mem_cons.mp hP with rfl | hP
        · exact L2
        · exact hL P hP) ⟨Option.some.inj (hP1s.symm.trans hP2m), hlk2, hlk3⟩ (u0 := u0) (sen := sen) (self := a) hmsg (cell := freshCell P1.m.cls kX) (cellS := cs1)
    hcell (fun _ => by simp) (by simp) rfl rfl hsel0 hselF hcs hne hkn (by rw [hkp _ (hoff _)]; exact hu0) (by rw [hkp _ (hoff _)]; exact hsen)
    (Takes.of_laid hk hord tyC (by rw [Y.causeType]; rfl)) (Takes.of_laid hk hord tyS (by rw [Y.stackType]; exact fits_refV_array _ u0)) (Takes.of_laid hk hord tyP (by rw [Y.suppType]; exact fits_refV_object _ sen))
    (Takes.of_laid hk hord tyM (by rw [Y.msgType]; exact fits_refV_object _ ⟨msg, hmsg⟩)) Y.objLocals hskip htr [] hd6
    (by simp only [List.length_cons, hl1]; omega) (by simp only [List.length_cons, hl1]; exact hRl)
  obtain ⟨hwalk, hrun, hended, hWU, hsame⟩ := X₂.athrowLeaves hexec (g := { g with stack := .ref a :: rest, pc := g.pc + 3 }) hg hlocked hentered hout (a := a) (rest := rest) rfl hd9
  have hlt : a < ((W9.setVm vm₁).setVm vm₂).heap.size := (Array.getElem?_eq_some_iff.mp hcell).1
  refine ⟨_, st1 _ (fun acts => ?_), hrun, hended, hWU, hsame.weaken (fun y hy hy2 => ?_) (Nat.le_refl _) (Nat.le_refl _), _, heapAt_setCell_self (s := (W9.setVm vm₁).setVm vm₂) (plainBareV T.toThrowableT (freshCell P1.m.cls kX) a u0 sen msg) hlt, rfl, hfd⟩
  · rw [doInvoke_state]
    exact st2 _ hwalk
  · rcases List.mem_append.mp hy with h1 | h1
    · exact h1
    · exfalso
      have hb : y.base = a := by
        simp only [List.mem_cons, List.not_mem_nil, or_false] at h1
        rcases h1 with rfl | rfl | rfl | rfl | rfl <;> rfl
      rw [hb] at hy2
      exact Nat.not_lt.mpr hnew hy2
end
section
variable {p : Program} {l : Launch} {e : Env} {R : Room} {s : State} {m : MethodId} {args : Array Value} {below : List Frame} {meth : Method} {c : Code} {H : Heap} {locs : List Loc} {cells slots mc ms pc : Nat} {A : Nat → Prop} {ls : Array Slot} {rest : List Value} {cc : ByteArray} {Qc : Array Value → State → Outcome → State → Prop} {P : String → Prop}
theorem thr {cls text : String} {ik is ic : Nat} {sa : Nat} (hexec : p.tables.exec = Jvm.exec) (hb : c.code = cc) (hl : l.stackTraces = false) (hown : s.vm.findClass RL = some m.cls) (hcls : Bundle.fit cls = true) (hk : (Cond.classLink RL ik cls).before args s = true) (hini : (Cond.initialized cls).before args s = true) (hstr : vk_R RL is text sa s) (hat : ∀ w ∈ vx_atS RL ic cls eR, w.before args s = true)
    (hgood : ∀ w ∈ Cond.classLink RL ik cls :: Cond.initialized cls :: vx_atS RL ic cls eR, vx_ot w = true) (hE : EV A s s.heap) (hS : va_S A s.heap H locs) (hU : ∀ q : Nat, q < s.heap.size → H[q]? = s.heap[q]?) (hsize : ls.size = c.maxLocals)
    (d0 : decode cc pc = .ok (.new ik, 3)) (d3 : decode cc (pc + 3) = .ok (.dup, 1)) (d4 : decode cc (pc + 4) = .ok (.ldc is, 2)) (d6 : decode cc (pc + 6) = .ok (.invokespecial ic, 3)) (d9 : decode cc (pc + 9) = .ok (.athrow, 1)) (ht : ∀ x ∈ c.exceptionTable.toList, False)
    (hRf : 5 < R.frames) (hRl : (rest.map fun v => v.category).sum + 82 ≤ R.locals) (hRc : cells + 1 ≤ R.cells) (hRs : slots + 6 ≤ R.slots) (hlocks : meth.locks = false) (hP : P cls) (hc : cells + 1 ≤ mc) (hs : slots + 6 ≤ ms) :
    W p l e R s m args below meth c H locs cells slots (vx_MQ below Qc (XK P) args s mc ms A) (F0 m pc ls rest) :=
  vx_throwS hexec hb hl hown hcls (by decide +kernel) hk hini hstr hat hgood hE.1 hE.2.1 hS hsize d0 d3 d4 d6 d9 (fun x h => (ht x h).elim) hRf hRl hRc hRs hlocks (fun t _ h1 h2 => ⟨(), trivial, hP, Nat.le_trans hS.1 h1, fun q hq _ => (h2 q (Nat.lt_of_lt_of_le hq hS.1)).trans (hU q hq)⟩) hS.2.2 hc hs
theorem hatI (hA9 : ∀ w ∈ WA, w.before args s = true) (hE : EV A s s.heap) : ∀ w ∈ vx_atS RL 41 eI eR, w.before args s = true := by
  obtain ⟨-, -, -, -, -, -, -, -, -, c1, c2, -, c4, c5, c6⟩ := hE
  exact vx_hat (B := [.castable eI eI, .declares (Bundle.initS "java/lang/RuntimeException"), .declares (Bundle.initS "java/lang/Exception"), .declares (Bundle.initS Bundle.tN)]) (fun w h => hA9 w (mx_I w h)) (by decide +kernel) (vx_c (va_Nw.use rfl c1) (vx_c (va_Nw.use rfl c4) (vx_c (va_Nw.use rfl c5) (vx_c (va_Nw.use rfl c6) vx_n))))
theorem hatN (hA9 : ∀ w ∈ WA, w.before args s = true) (hE : EV A s s.heap) : ∀ w ∈ nAtS, w.before args s = true := by
  obtain ⟨-, -, -, -, -, -, -, -, -, c1, c2, -, c4, c5, c6⟩ := hE
  exact vx_hat (B := [.castable eN eN, .declares (Bundle.initS "java/lang/RuntimeException"), .declares (Bundle.initS "java/lang/Exception"), .declares (Bundle.initS Bundle.tN)]) (fun w h => hA9 w (mx_N w h)) (by decide +kernel) (vx_c (va_Nw.use rfl c2) (vx_c (va_Nw.use rfl c4) (vx_c (va_Nw.use rfl c5) (vx_c (va_Nw.use rfl c6) vx_n))))
theorem hgdI : ∀ w ∈ Cond.classLink RL 37 eI :: Cond.initialized eI :: vx_atS RL 41 eI eR, vx_ot w = true := by decide +kernel
theorem hgdN : ∀ w ∈ Cond.classLink RL 50 eN :: Cond.initialized eN :: nAtS, vx_ot w = true := by decide +kernel
/-- a check that was called: it returns and nothing old has changed, or it throws, and so does the caller -/
theorem chk {N : Nat} {ad : Nat → Nat} {ce : Nat → va_E} {D : va_G} {post : Unit → Prop} {P0 : String → Prop} {m1 s1 : Nat} {st0 : List Value} {a : Array Value} (hlocks : meth.locks = false) (ht : ∀ x ∈ c.exceptionTable.toList, False) (hr : vx_Run p l e R s m args below meth c H locs cells slots m1 s1 (F0 m pc ls st0) rest (va_Qv post (fun _ _ => True) (fun _ => False) a) (XK P0) (AW N ad H.size)) (hS : va_S A s.heap H locs) (hP : va_P D CLS (wx N ad ce) H) (hD : va_D A (wx N ad ce)) (hA : ∀ q, s.heap.size ≤ q → A q) (hU : ∀ q : Nat, q < s.heap.size → H[q]? = s.heap[q]?)
    (hx : ∀ E, P0 E → P E) (hc : cells + m1 ≤ mc) (hs : slots + s1 ≤ ms)
    (kk : ∀ (H : Heap) (locs : List Loc), post () → va_P D CLS (wx N ad ce) H → va_S A s.heap H locs → (∀ q : Nat, q < s.heap.size → H[q]? = s.heap[q]?) → W p l e R s m args below meth c H locs (cells + m1) (slots + s1) (vx_MQ below Qc (XK P) args s mc ms A) (F0 m (pc + 3) ls rest)) : W p l e R s m args below meth c H locs cells slots (vx_MQ below Qc (XK P) args s mc ms A) (F0 m pc ls st0) :=
  vx_callv hr hS (fun _ _ h => h.elim) (aw_in hD hS hA) (fun _ _ h => h.elim)
    (fun E ce q9 u t H1 locs1 _ _ _ hB hz hk hS1 hce hcv hcl => vx_out (fun x h => (ht x h).elim) hlocks hce hcv hcl (fun t2 ht2 _ => ⟨(), trivial, hx E hB, by rw [ht2]; exact hS1.1, fun q hq _ => by rw [ht2, hk q (Nat.lt_of_lt_of_le hq hS.1) (fun z => z)]; exact hU q hq⟩) hS1.2.2 hc hs)
    (fun u t H1 locs1 _ _ hp _ hz hk hS1 => kk H1 locs1 hp (hP.kept (fun k q hq => hk q.1 ((hP k q hq).lt) (fun z => z))) hS1 (fun q hq => (hk q (Nat.lt_of_lt_of_le hq hS.1) (fun z => z)).trans (hU q hq)))
end
end
section
/-! 'throw new NoSuchElementException(text)': new; dup; ldc; invokespecial; athrow -/
section
variable {p : Program} {l : Launch} {e : Env} {R : Room} {s : State} {m : MethodId} {args : Array Value} {below : List Frame} {meth : Method} {c : Code} {H : Heap} {locs : List Loc} {cells slots mc ms pc : Nat} {A : Nat → Prop} {ls : Array Slot} {rest : List Value} {cc : ByteArray} {Qc : Array Value → State → Outcome → State → Prop} {P : String → Prop}
set_option maxHeartbeats 4000000 in
theorem thrN {text : String} {is : Nat} {sa : Nat} (hexec : p.tables.exec = Jvm.exec) (hb : c.code = cc) (hl : l.stackTraces = false) (hown : s.vm.findClass RL = some m.cls) (hA9 : ∀ w ∈ WA, w.before args s = true) (hstr : vk_R RL is text sa s) (hE : EV A s s.heap) (hS : va_S A s.heap H locs) (hU0 : ∀ q : Nat, q < s.heap.size → H[q]? = s.heap[q]?) (hsize : ls.size = c.maxLocals)
    (d0 : decode cc pc = .ok (.new 50, 3)) (d3 : decode cc (pc + 3) = .ok (.dup, 1)) (d4 : decode cc (pc + 4) = .ok (.ldc is, 2)) (d6 : decode cc (pc + 6) = .ok (.invokespecial 54, 3)) (d9 : decode cc (pc + 9) = .ok (.athrow, 1)) (ht : ∀ x ∈ c.exceptionTable.toList, False)
    (hRf : 5 < R.frames) (hRl : (rest.map fun v => v.category).sum + 82 ≤ R.locals) (hRc : cells + 1 ≤ R.cells) (hRs : slots + 6 ≤ R.slots) (hlocks : meth.locks = false) (hP : P eN) (hc : cells + 1 ≤ mc) (hs : slots + 6 ≤ ms) :
    W p l e R s m args below meth c H locs cells slots (vx_MQ below Qc (XK P) args s mc ms A) (F0 m pc ls rest) := by
  intro T hT X
  have htr : e.platform.stackTraces = false := (show e.platform.stackTraces = l.stackTraces by rw [X.admits.platform]).trans hl
  have Y := vx_rebase X (R' := { frames := R.frames, locals := R.locals, cells := 1, slots := 6 }) (Nat.le_refl _) (Nat.le_refl _) hRc hRs
  obtain ⟨s', hA⟩ : ∃ z, z = (T.setVm s.vm).setFrames (.invoking m args :: below) := ⟨_, rfl⟩
  rw [← hA] at Y
  have hvm : s'.vm = s.vm := by rw [hA]; rfl
  have hhp : s'.heap = H := by rw [hA]; exact hT
  have hW0 : s.WarmedH s'.vm := by rw [hvm]; exact State.WarmedH.refl s
  have hat := hatN hA9 hE
  have hat' : ∀ w ∈ nAtS, w.before args s' = true := fun w hw => vx_ot_at hW0 hvm.symm (hgdN w (List.mem_cons_of_mem _ (List.mem_cons_of_mem _ hw))) (hat w hw)
  have hk' : (Cond.classLink RL 50 eN).before args s' = true := vx_ot_at hW0 hvm.symm (hgdN _ List.mem_cons_self) (hA9 _ mcL_50)
  have hini' : (Cond.initialized eN).before args s' = true := vx_ot_at hW0 hvm.symm (hgdN _ (List.mem_cons_of_mem _ List.mem_cons_self)) (hA9 _ mn_nse)
  have hU' : vx_Zq Bundle.tN "UNASSIGNED_STACK" Bundle.steD A s' s'.heap := by rw [hhp]; exact vx_Zq.moved hW0.alike (hE.1.kept hS.2.1)
  have hN' : vx_Zq Bundle.tN "SUPPRESSED_SENTINEL" Bundle.listD A s' s'.heap := by rw [hhp]; exact vx_Zq.moved hW0.alike (hE.2.1.kept hS.2.1)
  have h : ∀ w ∈ nAt, w.before args s' = true := vx_own hat' (vx_isRefq hU'.1) (vx_isRefq hN'.1) hU'.2.word hN'.2.word
  have hown' : s'.vm.findClass RL = some m.cls := by rw [hvm]; exact hown
  have hins : (Cond.instantiable eN 6).before args s' = true := h _ (by simp [nAt])
  obtain ⟨vm₁, cX, kX, hfX, hkX, -, -, X₁, st1⟩ := Y.newCold hexec (own := RL) (C := eN) (index := 50) (n := 6) hown' hk' hins hini'
    (g := F0 m pc ls rest) rfl (by rw [hb]; exact d0) (Nat.le_refl _) (Nat.le_refl _)
  generalize hT1 : (T.setVm vm₁).pushCell { cls := cX, slots := kX.instanceTypes.map defaultValue, vm := .none } = T1 at X₁ st1
  have hcat : (Value.ref T.heap.size).category = 1 := rfl
  have hcellA : T1.heap[T.heap.size]? = some (freshCell cX kX) := by rw [← hT1]; exact State.heap_pushCell_size _ _
  have d3' : decode c.code (pc + 3) = .ok (.dup, 1) := by rw [hb]; exact d3
  have d4' : decode c.code (pc + 4) = .ok (.ldc is, 2) := by rw [hb]; exact d4
  have hstr' : vk_R RL is text sa s' := vk_R.warm hW0 hstr
  obtain ⟨U, hsteps, hrun, hend, hW, hsame, ce, hce, hcv, hcl0⟩ := nse_ctor X₁ hexec htr hown' h (fun x hx => nomatch hx) hfX hkX hcellA (by rw [hhp, hT]; exact Nat.le_refl _) (msg := .ref sa) rfl
    (g := { method := m, pc := pc + 6, locals := ls, stack := .ref sa :: .ref T.heap.size :: .ref T.heap.size :: rest, locked := none }) rfl hsize rfl rfl (rest := rest) rfl
    (by rw [hb]; exact d6) (by rw [hb]; exact d9) (fun x hx => (ht x hx).elim) hRf (by
      have hm9 : ∀ (x : List Value), 2 * (F0 m (pc + 6) ls x).monitorRoom = 0 := fun _ => rfl
      have hm8 := hm9 (.ref sa :: .ref T.heap.size :: .ref T.heap.size :: rest)
      simp only [List.map_cons, List.sum_cons, hcat]; omega) hlocks
  obtain ⟨f1, f2⟩ := vx_frame hsame
  rw [hhp] at f1 f2
  have hWs : s.WarmedH U.vm := State.WarmedH.trans hW0 hW
  have hcl : s.vm.findClass eN = some ce.cls := by
    rw [hvm] at hcl0
    exact hcl0
  have hall : s.sameButNew ({ U with vm := s.vm } : State) locs mc ms := by
    subst hA
    obtain ⟨e1, e2⟩ := hsame
    rw [State.setFrames_setFrames] at e1
    have h2 : (T.setVm s.vm).sameButNew ({ U with vm := s.vm } : State) [] (0 + 1) (0 + 6) := ⟨e1, e2⟩
    have h3 := X.same.trans h2
    rw [List.append_nil] at h3
    exact h3.mono hc hs
  refine ⟨U, ?_, .threw T.heap.size, hrun, hend, Or.inr ⟨T.heap.size, rfl, eN, ce, locs, ⟨(), trivial, hP, Nat.le_trans hS.1 f1, fun q hq _ => (f2 q (Nat.lt_of_lt_of_le hq hS.1) (fun z hz => nomatch hz)).trans (hU0 q hq)⟩, hce, hcv, hcl, hWs, hall, hS.2.2⟩⟩
  refine st1 _ ?_
  show Steps p.tables e below (T1.setTop { method := m, pc := pc + 3, locals := ls, stack := .ref T.heap.size :: rest, locked := none }) _
  jvm_step X₁.here [X₁.here.top, hexec, d3', Value.category]
  exact X₁.ldcString hexec (own := RL) (text := text) (index := is) (a := sa) hown' hstr'.1 hstr'.2
    (g := { method := m, pc := pc + 4, locals := ls, stack := .ref T.heap.size :: .ref T.heap.size :: rest, locked := none }) rfl d4' _ hsteps
end
end
section
/-! rows for the questions that go from group to group -/
theorem bm_none {f : Nat → Nat} {y u v : Nat} (h : lq f (y + 1) u v = 0) : BM f y u v none := fun i h1 h2 => by
  rcases Nat.lt_or_ge y (f i) with q | q
  · exact q
  · have a := eq_in (f := f) h1 h2 rfl
    have b := lq_s f (f i) (show u ≤ v by omega)
    have d := lq_mono f (show u ≤ v by omega) (show f i + 1 ≤ y + 1 by omega)
    omega
theorem bm_some {f : Nat → Nat} {y u v w : Nat} (huv : u ≤ v) (h : 0 < lq f (y + 1) u v) (hk : KT f u v (lq f (y + 1) u v - 1) w) : BM f y u v (some w) := by
  obtain ⟨k1, k2⟩ := hk
  have hs := lq_s f w huv
  refine ⟨eq_ex (by omega), ?_, fun i h1 h2 h3 => ?_⟩
  · rcases Nat.lt_or_ge y w with q | q
    · have := lq_mono f huv (show y + 1 ≤ w by omega); omega
    · exact q
  · rcases Nat.lt_or_ge w (f i) with q | q
    · have a := eq_in (f := f) h1 h2 rfl
      have b := lq_s f (f i) huv
      have d := lq_mono f huv (show f i + 1 ≤ y + 1 by omega)
      have g := lq_mono f huv (show w + 1 ≤ f i by omega)
      omega
    · exact q
theorem nd_ext {f : Nat → Nat} {u v z w : Nat} (hzw : z ≤ w) (h : ∀ t, z ≤ t → t < w → eq f t u v = 0) : nd f u v w = nd f u v z := by
  induction w with
  | zero => rw [Nat.le_zero.mp hzw]
  | succ w ih =>
    rcases Nat.lt_or_ge z (w + 1) with q | q
    · rw [nd_s0 (h w (by omega) (by omega))]; exact ih (by omega) (fun t a b => h t a (by omega))
    · rw [show z = w + 1 by omega]
theorem lq_flat {f : Nat → Nat} {u v z w : Nat} (huv : u ≤ v) (h : lq f w u v ≤ lq f z u v) : ∀ t, z ≤ t → t < w → eq f t u v = 0 := fun t h1 h2 => by
  have a := lq_mono f huv h1
  have b := lq_mono f huv (show t + 1 ≤ w by omega)
  rw [lq_s f t huv] at b
  omega
theorem kt_next {f : Nat → Nat} {u v z y : Nat} (huv : u ≤ v) (h : KT f u v (lq f z u v) y) : z ≤ y ∧ lq f y u v = lq f z u v ∧ 0 < eq f y u v ∧ (∀ t, z ≤ t → t < y → eq f t u v = 0) ∧ nd f u v y = nd f u v z := by
  obtain ⟨k1, k2⟩ := h
  have hs := lq_s f y huv
  have hz : z ≤ y := by
    rcases Nat.lt_or_ge y z with q | q
    · have := lq_mono f huv (show y + 1 ≤ z by omega); omega
    · exact q
  have hm := lq_mono f huv hz
  have hf := lq_flat huv (show lq f y u v ≤ lq f z u v from k1)
  exact ⟨hz, by omega, by omega, hf, nd_ext hz hf⟩
def DG (f : Nat → Nat) (u v w : Nat) (a : Nat → Int32) : Prop := ∀ t, t < w → 0 < eq f t u v → a (nd f u v t) = nI (t * 4096 + eq f t u v)
theorem DG.next {f : Nat → Nat} {u v z y : Nat} {a : Nat → Int32} (h : DG f u v z a) (hf : ∀ t, z ≤ t → t < y → eq f t u v = 0) (hn : nd f u v y = nd f u v z) : DG f u v (y + 1) (upd a (nd f u v z) (nI (y * 4096 + eq f y u v))) := fun t ht hp => by
  rcases Nat.lt_or_ge t z with q | q
  · have h1 : nd f u v t ≠ nd f u v z := by
      have := nd_mono f u v (show t + 1 ≤ z by omega)
      rw [nd_s1 hp] at this
      omega
    rw [pk_un h1]; exact h t q hp
  · rcases Nat.lt_or_ge t y with q2 | q2
    · have := hf t q q2; omega
    · obtain rfl : t = y := by omega
      rw [hn]; exact pk_us
theorem DG.ext {f : Nat → Nat} {u v z w : Nat} {a : Nat → Int32} (h : DG f u v z a) (hf : ∀ t, z ≤ t → t < w → eq f t u v = 0) : DG f u v w a := fun t ht hp => by
  rcases Nat.lt_or_ge t z with q | q
  · exact h t q hp
  · have := hf t q ht; omega
theorem MM.ext {f : Nat → Nat} {u v z w : Nat} {o : Option Nat} (h : MM f u v z o) (hzw : z ≤ w) (hf : ∀ t, z ≤ t → t < w → eq f t u v = 0) : MM f u v w o := by
  induction w with
  | zero => rw [Nat.le_zero.mp hzw] at h; exact h
  | succ w ih =>
    rcases Nat.lt_or_ge z (w + 1) with q | q
    · exact (ih (by omega) (fun t a b => hf t a (by omega))).skip (Or.inl (hf w (by omega) (by omega)))
    · rw [show z = w + 1 by omega] at h; exact h
def bT (f : Nat → Nat) (u v : Nat) (o : Option Nat) : Nat := match o with
  | none => 0
  | some b => eq f b u v
theorem bT_le (f : Nat → Nat) {u v : Nat} (o : Option Nat) (h : u ≤ v) : bT f u v o ≤ v - u := by
  cases o with
  | none => exact Nat.zero_le _
  | some b => exact eq_le f b h
/-- what different left in the class and in the reference is the same -/
theorem df_pair {f : Nat → Nat} {u v : Nat} {a b g : Nat → Int32} (h1 : DF f u v 512 a b) (h2 : DG f u v 512 g) (huv : u ≤ v) (hv : v ≤ 4000) : ∃ wv tv : Nat → Nat, ∀ i, i < nd f u v 512 → (wv i < 512 ∧ tv i < 4096) ∧ g i = nI (wv i * 4096 + tv i) ∧ a i = nI (wv i) ∧ b i = nI (tv i) := by
  refine ⟨vl a, vl b, fun i hi => ?_⟩
  obtain ⟨t, h3, h4, h5⟩ := cn_kth (p := fun t => decide (0 < eq f t u v)) (n := 512) hi
  have hp : 0 < eq f t u v := of_decide_eq_true h4
  have h6 : nd f u v t = i := h5
  have e1 := h1 t h3 hp
  have e2 := h2 t h3 hp
  rw [h6] at e1 e2
  have el := eq_le f t huv
  have q1 : vl a i = t := A5.e e1.1 (by omega)
  have q2 : vl b i = eq f t u v := A5.e e1.2 (by omega)
  refine ⟨⟨by rw [q1]; exact h3, by rw [q2]; omega⟩, ?_, ?_, ?_⟩
  · rw [q1, q2]; exact e2
  · rw [q1]; exact e1.1
  · rw [q2]; exact e1.2
theorem TR.cg {cI cO : ClassId} {ad : Nat → Nat} {ce ce1 : Nat → va_E} {os : Nat → Nat → Nat} {n : Nat} (h : TR cI cO ad ce os n) (hj : ∀ j, 2 ≤ j ∧ j < 33 → ce1 j = ce j) : TR cI cO ad ce1 os n := by
  obtain ⟨h1, ⟨lv, h2, h3⟩, h4, h5⟩ := h
  exact ⟨(hj 2 (by omega)).trans h1, ⟨lv, (hj 3 (by omega)).trans h2, h3⟩, fun d hd => (h4 d hd).cg (hj _ (by omega)) (hj _ (by omega)) (hj _ (by omega)), h5⟩
end
section
set_option maxHeartbeats 4000000 in
set_option maxRecDepth 100000 in
theorem c_L_count (l : Launch) (D : va_G) (cI cO cJ : ClassId) (N : Nat) (ad : Nat → Nat) (ce : Nat → va_E) (hN : 34 ≤ N) (os : Nat → Nat → Nat) (n : Nat) (hT : TR cI cO ad ce os n) (rl gc : Nat) (h0 : ce 0 = .inr (2, [.ref (ad 1), .ref (ad 2), .ref (ad 33), .int (nI rl), .int (nI gc)])) (x : Int32) : Met l yL_count (.code yL_count bL_count 2 (some .int) :: WA) ({ frames := 1, cells := 0, slots := 0, locals := 20 }) (PR D (TY cI cO cJ) N ad ce [.ref (ad 0), .int (x)]) (vp_Si (fun r => r = (if x = 0 then nI rl else if x = 1 then nI n else -1))) 0 0 (fun _ => False) := by
  refine Met.ofW (cc := bL_count) (maxL := 2) (ret := (some .int)) (by decide) rfl ?_
  intro p e s m args below meth c s₁ B hml hv
  obtain ⟨rfl, hP, hK⟩ := hv
  have hx := B.exec
  have hb := B.bytes
  have hr := B.returns
  have hA9 : ∀ w ∈ WA, w.before _ s = true := fun w h => atoms_spec (ws := .code yL_count bL_count 2 (some .int) :: WA) B.pre w (List.mem_cons_of_mem _ h)
  have hown : s.vm.findClass RL = some m.cls := findClass_of_methodNamed B.named
  have hlocks := B.notSynchronized
  have hl := lv_entry ([.ref (ad 0), .int (x)]) (n := 2) (Nat.le_of_ble_eq_true rfl)
  rw [lg_entry_eq]
  generalize (lg_sl ([.ref (ad 0), .int (x)]) ++ List.replicate (2 - (lg_sl ([.ref (ad 0), .int (x)])).length) Slot.unset).toArray = ls at hl ⊢
  have hl : lv_has ls 2 [(0, .ref (ad 0)), (1, .int (x))] := hl
  refine lv_iload_n hx hb dL_count_0 rfl (lv_at hl 1 rfl) ?_
  refine lv_if_ne (tgt := 9) hx hb dL_count_1 (by decide) (fun c1 => ?_) (fun c1 => ?_)
  · skip
    refine lv_iload_n hx hb dL_count_9 rfl (lv_at hl 1 rfl) ?_
    refine lv_iconst (v := 1) hx hb dL_count_10 (by decide +kernel) ?_
    refine lv_icmp_ne (tgt := 24) hx hb dL_count_11 (by decide) (fun c11 => ?_) (fun c11 => ?_)
    · skip
      refine lv_iconst (v := (-1)) hx hb dL_count_24 (by decide +kernel) ?_
      exact W.iret (v := ((-1))) hx hb hr (fun t ht hW => ⟨((-1)), rfl, by rw [if_neg c1, if_neg c11], ht⟩) (fun q h => nomatch h) dL_count_25
    · skip
      refine lv_aload_n hx hb dL_count_14 rfl (lv_at hl 0 rfl) ?_
      refine va_get (D := D) (ci := 2) (v := .ref (ad 2)) (C := RL) (T := TL) (N := 5) hx hb hA9 inL hown hK hP 0 (wx_at (by omega) h0) rfl 1 (by decide) (hA9 _ mfL_16) (fun _ h9 => h9) rfl dL_count_15 ?_
      refine vp_callSi (va_runV (As := []) (rest := []) ⟨hx, hb, hml, hown, hA9⟩ (c_T_size l D cI cO cJ N ad ce (by omega) os n hT) (cwV 0 hA9 (gV mlL_46 miT_size msT_size mn_T mkT_size) rfl rfl rfl (by decide +kernel) ⟨Nat.le_of_ble_eq_true rfl, Nat.le_of_ble_eq_true rfl⟩) ⟨PR_bl, wx_recv hK hP (by omega) hT.1 rfl, PR_mk hK hP⟩ rfl rfl hl.1 rfl (lv_room (Nat.le_of_ble_eq_true rfl)) dL_count_18 ⟨Nat.le_of_ble_eq_true rfl, Nat.le_of_ble_eq_true rfl⟩).run (fun r1 hr1 => ?_)
      obtain rfl : r1 = nI n := hr1
      refine lv_goto (tgt := 25) hx hb dL_count_21 (by decide) ?_
      exact W.iret (v := (nI n)) hx hb hr (fun t ht hW => ⟨(nI n), rfl, by rw [if_neg c1, if_pos c11], ht⟩) (fun q h => nomatch h) dL_count_25
  · skip
    refine lv_aload_n hx hb dL_count_4 rfl (lv_at hl 0 rfl) ?_
    refine va_get (D := D) (ci := 2) (v := .int (nI rl)) (C := RL) (T := TL) (N := 5) hx hb hA9 inL hown hK hP 0 (wx_at (by omega) h0) rfl 3 (by decide) (hA9 _ mfL_23) (fun _ h9 => h9) rfl dL_count_5 ?_
    exact W.iret (v := (nI rl)) hx hb hr (fun t ht hW => ⟨(nI rl), rfl, by rw [if_pos c1], ht⟩) (fun q h => nomatch h) dL_count_8

set_option maxHeartbeats 4000000 in
set_option maxRecDepth 100000 in
theorem c_L_add (l : Launch) (D : va_G) (cI cO cJ : ClassId) (N : Nat) (ad : Nat → Nat) (ce : Nat → va_E) (sz : Nat) (hN : 34 ≤ N) (rl gc : Nat) (h0 : ce 0 = .inr (2, [.ref (ad 1), .ref (ad 2), .ref (ad 33), .int (nI rl), .int (nI gc)])) (row : Nat → Int32) (h1 : ce 1 = .inl (cI, 4000, .inl row)) (hrl : rl ≤ 3997) (a1 a2 a3 : Int32) : Met l yL_add (.code yL_add bL_add 4 (some .int) :: WA) ({ frames := 0, cells := 0, slots := 0, locals := 0 }) (PM D (TY cI cO cJ) N ad ce sz [.ref (ad 0), .int (a1), .int (a2), .int (a3)]) (va_Qi (fun (r : Int32) (ce1 : Nat → va_E) => r = nI (rl + 3) ∧ (∀ j, j ≠ 0 → j ≠ 1 → ce1 j = ce j) ∧ ce1 0 = .inr (2, [.ref (ad 1), .ref (ad 2), .ref (ad 33), .int (nI (rl + 3)), .int (nI gc)]) ∧ ce1 1 = .inl (cI, 4000, .inl (upd (upd (upd row rl (nI (m9 a1))) (rl + 1) (nI (m9 a2))) (rl + 2) (nI (m9 a3))))) (BW D (TY cI cO cJ) N ad (AW N ad sz)) (AW N ad sz)) 0 0 (AW N ad sz) := by
  refine Met.ofW (cc := bL_add) (maxL := 4) (ret := (some .int)) (by decide) rfl ?_
  intro p e s m args below meth c s₁ B hml hv
  obtain ⟨rfl, hsz, hP, hK, hD0⟩ := hv
  have hx := B.exec
  have hb := B.bytes
  have hr := B.returns
  have hA9 : ∀ w ∈ WA, w.before _ s = true := fun w h => atoms_spec (ws := .code yL_add bL_add 4 (some .int) :: WA) B.pre w (List.mem_cons_of_mem _ h)
  have hown : s.vm.findClass RL = some m.cls := findClass_of_methodNamed B.named
  have hlocks := B.notSynchronized
  subst hsz
  have hD := aw_D (sz := s.heap.size) hD0
  generalize hAe : AW N ad s.heap.size = A at hD ⊢
  have hA : ∀ q, s.heap.size ≤ q → A q := fun q h => by rw [← hAe]; exact Or.inr h
  clear hAe hD0
  have hl := lv_entry ([.ref (ad 0), .int (a1), .int (a2), .int (a3)]) (n := 4) (Nat.le_of_ble_eq_true rfl)
  rw [lg_entry_eq]
  generalize (lg_sl ([.ref (ad 0), .int (a1), .int (a2), .int (a3)]) ++ List.replicate (4 - (lg_sl ([.ref (ad 0), .int (a1), .int (a2), .int (a3)])).length) Slot.unset).toArray = ls at hl ⊢
  have hl : lv_has ls 4 [(0, .ref (ad 0)), (1, .int (a1)), (2, .int (a2)), (3, .int (a3))] := hl
  refine st0 (A := A) (fun H locs hS hH => ?_)
  rw [← hH] at hP
  clear hH
  refine lv_aload_n hx hb dL_add_0 rfl (lv_at hl 0 rfl) ?_
  refine va_get (D := D) (ci := 2) (v := .int (nI rl)) (C := RL) (T := TL) (N := 5) hx hb hA9 inL hown hK hP 0 (wx_at (by omega) h0) rfl 3 (by decide) (hA9 _ mfL_23) (fun _ h9 => h9) rfl dL_add_1 ?_
  refine lv_sipush (v := nI 3997) hx hb dL_add_4 (by decide +kernel) ?_
  refine lv_icmp_le (tgt := 20) hx hb dL_add_7 (by decide) (fun c7 => ?_) (fun c7 => ?_)
  · skip
    refine lv_aload_n hx hb dL_add_20 rfl (lv_at hl 0 rfl) ?_
    refine va_get (D := D) (ci := 2) (v := .ref (ad 1)) (C := RL) (T := TL) (N := 5) hx hb hA9 inL hown hK hP 0 (wx_at (by omega) h0) rfl 0 (by decide) (hA9 _ mfL_9) (fun _ h9 => h9) rfl dL_add_21 ?_
    refine lv_aload_n hx hb dL_add_24 rfl (lv_at hl 0 rfl) ?_
    refine va_get (D := D) (ci := 2) (v := .int (nI rl)) (C := RL) (T := TL) (N := 5) hx hb hA9 inL hown hK hP 0 (wx_at (by omega) h0) rfl 3 (by decide) (hA9 _ mfL_23) (fun _ h9 => h9) rfl dL_add_25 ?_
    refine lv_iload_n hx hb dL_add_28 rfl (lv_at hl 1 rfl) ?_
    refine lv_sipush (v := nI 511) hx hb dL_add_29 (by decide +kernel) ?_
    refine lv_iand hx hb dL_add_32 ?_
    refine lv_topi (fun z1 ez1 => ?_)
    obtain rfl : z1 = nI (m9 a1) := by rw [ez1]; exact and511 _
    refine va_iast hx hb hK hP hD hS 1 0 (wx_at (by omega) h1) rfl (inN) dL_add_33 (fun H locs hP hD hS => ?_)
    rw [clN (a := rl)] at hP hD
    obtain ⟨ce1, hce1⟩ : ∃ z9, z9 = va_up ce 1 (.inl (cI, 4000, .inl (upd row rl (nI (m9 a1))))) := ⟨_, rfl⟩
    rw [wx_set (by omega), ← hce1] at hP hD
    have q2 : ce1 0 = .inr (2, [.ref (ad 1), .ref (ad 2), .ref (ad 33), .int (nI rl), .int (nI gc)]) := by rw [hce1, va_up_ne _ _ (by omega)]; exact h0
    have q3 : ce1 1 = .inl (cI, 4000, .inl (upd row rl (nI (m9 a1)))) := by rw [hce1, va_up_self]
    have fr4 : ∀ j, j ≠ 1 → ce1 j = ce j := fun j h0 => by rw [hce1, va_up_ne _ _ h0]
    refine lv_aload_n hx hb dL_add_34 rfl (lv_at hl 0 rfl) ?_
    refine va_get (D := D) (ci := 2) (v := .ref (ad 1)) (C := RL) (T := TL) (N := 5) hx hb hA9 inL hown hK hP 0 (wx_at (by omega) q2) rfl 0 (by decide) (hA9 _ mfL_9) (fun _ h9 => h9) rfl dL_add_35 ?_
    refine lv_aload_n hx hb dL_add_38 rfl (lv_at hl 0 rfl) ?_
    refine va_get (D := D) (ci := 2) (v := .int (nI rl)) (C := RL) (T := TL) (N := 5) hx hb hA9 inL hown hK hP 0 (wx_at (by omega) q2) rfl 3 (by decide) (hA9 _ mfL_23) (fun _ h9 => h9) rfl dL_add_39 ?_
    refine lv_iconst (v := nI 1) hx hb dL_add_42 (by decide +kernel) ?_
    refine lv_iadd hx hb dL_add_43 ?_
    refine lv_topi (fun z5 ez5 => ?_)
    obtain rfl : z5 = nI (rl + 1) := by rw [ez5]; exact nI_add _ _
    refine lv_iload_n hx hb dL_add_44 rfl (lv_at hl 2 rfl) ?_
    refine lv_sipush (v := nI 511) hx hb dL_add_45 (by decide +kernel) ?_
    refine lv_iand hx hb dL_add_48 ?_
    refine lv_topi (fun z6 ez6 => ?_)
    obtain rfl : z6 = nI (m9 a2) := by rw [ez6]; exact and511 _
    refine va_iast hx hb hK hP hD hS 1 0 (wx_at (by omega) q3) rfl (inN) dL_add_49 (fun H locs hP hD hS => ?_)
    rw [clN (a := (rl + 1))] at hP hD
    obtain ⟨ce2, hce2⟩ : ∃ z9, z9 = va_up ce1 1 (.inl (cI, 4000, .inl (upd (upd row rl (nI (m9 a1))) (rl + 1) (nI (m9 a2))))) := ⟨_, rfl⟩
    rw [wx_set (by omega), ← hce2] at hP hD
    have q7 : ce2 0 = .inr (2, [.ref (ad 1), .ref (ad 2), .ref (ad 33), .int (nI rl), .int (nI gc)]) := by rw [hce2, va_up_ne _ _ (by omega)]; exact q2
    have q8 : ce2 1 = .inl (cI, 4000, .inl (upd (upd row rl (nI (m9 a1))) (rl + 1) (nI (m9 a2)))) := by rw [hce2, va_up_self]
    have fr9 : ∀ j, j ≠ 1 → ce2 j = ce j := fun j h0 => by rw [hce2, va_up_ne _ _ h0]; exact fr4 j h0
    refine lv_aload_n hx hb dL_add_50 rfl (lv_at hl 0 rfl) ?_
    refine va_get (D := D) (ci := 2) (v := .ref (ad 1)) (C := RL) (T := TL) (N := 5) hx hb hA9 inL hown hK hP 0 (wx_at (by omega) q7) rfl 0 (by decide) (hA9 _ mfL_9) (fun _ h9 => h9) rfl dL_add_51 ?_
    refine lv_aload_n hx hb dL_add_54 rfl (lv_at hl 0 rfl) ?_
    refine va_get (D := D) (ci := 2) (v := .int (nI rl)) (C := RL) (T := TL) (N := 5) hx hb hA9 inL hown hK hP 0 (wx_at (by omega) q7) rfl 3 (by decide) (hA9 _ mfL_23) (fun _ h9 => h9) rfl dL_add_55 ?_
    refine lv_iconst (v := nI 2) hx hb dL_add_58 (by decide +kernel) ?_
    refine lv_iadd hx hb dL_add_59 ?_
    refine lv_topi (fun z10 ez10 => ?_)
    obtain rfl : z10 = nI (rl + 2) := by rw [ez10]; exact nI_add _ _
    refine lv_iload_n hx hb dL_add_60 rfl (lv_at hl 3 rfl) ?_
    refine lv_sipush (v := nI 511) hx hb dL_add_61 (by decide +kernel) ?_
    refine lv_iand hx hb dL_add_64 ?_
    refine lv_topi (fun z11 ez11 => ?_)
    obtain rfl : z11 = nI (m9 a3) := by rw [ez11]; exact and511 _
    refine va_iast hx hb hK hP hD hS 1 0 (wx_at (by omega) q8) rfl (inN) dL_add_65 (fun H locs hP hD hS => ?_)
    rw [clN (a := (rl + 2))] at hP hD
    obtain ⟨ce3, hce3⟩ : ∃ z9, z9 = va_up ce2 1 (.inl (cI, 4000, .inl (upd (upd (upd row rl (nI (m9 a1))) (rl + 1) (nI (m9 a2))) (rl + 2) (nI (m9 a3))))) := ⟨_, rfl⟩
    rw [wx_set (by omega), ← hce3] at hP hD
    have q12 : ce3 0 = .inr (2, [.ref (ad 1), .ref (ad 2), .ref (ad 33), .int (nI rl), .int (nI gc)]) := by rw [hce3, va_up_ne _ _ (by omega)]; exact q7
    have q13 : ce3 1 = .inl (cI, 4000, .inl (upd (upd (upd row rl (nI (m9 a1))) (rl + 1) (nI (m9 a2))) (rl + 2) (nI (m9 a3)))) := by rw [hce3, va_up_self]
    have fr14 : ∀ j, j ≠ 1 → ce3 j = ce j := fun j h0 => by rw [hce3, va_up_ne _ _ h0]; exact fr9 j h0
    refine lv_aload_n hx hb dL_add_66 rfl (lv_at hl 0 rfl) ?_
    refine lv_dup hx hb dL_add_67 rfl ?_
    refine va_get (D := D) (ci := 2) (v := .int (nI rl)) (C := RL) (T := TL) (N := 5) hx hb hA9 inL hown hK hP 0 (wx_at (by omega) q12) rfl 3 (by decide) (hA9 _ mfL_23) (fun _ h9 => h9) rfl dL_add_68 ?_
    refine lv_iconst (v := nI 3) hx hb dL_add_71 (by decide +kernel) ?_
    refine lv_iadd hx hb dL_add_72 ?_
    refine lv_topi (fun z15 ez15 => ?_)
    obtain rfl : z15 = nI (rl + 3) := by rw [ez15]; exact nI_add _ _
    refine va_put (D := D) (ci := 2) (v := .int (nI (rl + 3))) (ty := .int) (C := RL) (T := TL) (N := 5) hx hb hA9 inL tyL tyL_ok nmL hown hK hP hD hS 0 (wx_at (by omega) q12) rfl 3 (by decide) (hA9 _ mfL_23) (fun _ h9 => h9) rfl (by decide +kernel) rfl rfl (Nat.le_of_ble_eq_true rfl) dL_add_73 (fun H locs hP hD hS => ?_)
    replace hP : va_P D CLS ((wx N ad ce3).set 0 (ad 0, .inr (2, [.ref (ad 1), .ref (ad 2), .ref (ad 33), .int (nI (rl + 3)), .int (nI gc)]))) H := hP
    replace hD : va_D A ((wx N ad ce3).set 0 (ad 0, .inr (2, [.ref (ad 1), .ref (ad 2), .ref (ad 33), .int (nI (rl + 3)), .int (nI gc)]))) := hD
    obtain ⟨ce4, hce4⟩ : ∃ z9, z9 = va_up ce3 0 (.inr (2, [.ref (ad 1), .ref (ad 2), .ref (ad 33), .int (nI (rl + 3)), .int (nI gc)])) := ⟨_, rfl⟩
    rw [wx_set (by omega), ← hce4] at hP hD
    have q16 : ce4 1 = .inl (cI, 4000, .inl (upd (upd (upd row rl (nI (m9 a1))) (rl + 1) (nI (m9 a2))) (rl + 2) (nI (m9 a3)))) := by rw [hce4, va_up_ne _ _ (by omega)]; exact q13
    have q17 : ce4 0 = .inr (2, [.ref (ad 1), .ref (ad 2), .ref (ad 33), .int (nI (rl + 3)), .int (nI gc)]) := by rw [hce4, va_up_self]
    have fr18 : ∀ j, j ≠ 1 → j ≠ 0 → ce4 j = ce j := fun j h0 h1 => by rw [hce4, va_up_ne _ _ h1]; exact fr14 j h0
    refine lv_aload_n hx hb dL_add_76 rfl (lv_at hl 0 rfl) ?_
    refine va_get (D := D) (ci := 2) (v := .int (nI (rl + 3))) (C := RL) (T := TL) (N := 5) hx hb hA9 inL hown hK hP 0 (wx_at (by omega) q17) rfl 3 (by decide) (hA9 _ mfL_23) (fun _ h9 => h9) rfl dL_add_77 ?_
    exact W.iret (v := (nI (rl + 3))) hx hb hr (fun t ht hW => ⟨⟨(nI (rl + 3)), ce4, rfl, ⟨rfl, (fun j g0 g1 => fr18 j g1 g0), q17, q16⟩, by rw [ht]; exact hP, va_K.moved hW.alike hK, hD⟩, hS.F ht⟩) hS.2.2 dL_add_80
  · skip
    exact absurd (nI_le hrl (by omega)) c7

set_option maxHeartbeats 4000000 in
set_option maxRecDepth 100000 in
theorem c_L_checkNumber (l : Launch) (hlt : l.stackTraces = false) (D : va_G) (cI cO cJ : ClassId) (N : Nat) (ad : Nat → Nat) (ce : Nat → va_E) (sz : Nat) (x : Int32) (g : Nat) (hg : g ≤ 512) : vx_Met l yL_checkNumber (.code yL_checkNumber bL_checkNumber 2 none :: WA) ({ frames := 6, cells := 1, slots := 6, locals := 90 }) (PX D (TY cI cO cJ) N ad ce sz [.int (x), .int (nI g)]) (va_Qv (fun _ : Unit => (∃ y, y ≤ g ∧ x = nI y)) (fun _ _ => True) (fun _ => False)) (XK (fun E => E = eI ∧ ¬ (∃ y, y ≤ g ∧ x = nI y))) 1 6 (AW N ad sz) := by
  refine vx_ofW (cc := bL_checkNumber) (maxL := 2) (ret := none) (by decide) rfl ?_
  intro p e s m args below meth c s₁ B hml htab hv
  obtain ⟨rfl, hsz, hP, hK, hD0, hE⟩ := hv
  have hx := B.exec
  have hb := B.bytes
  have hr := B.returns
  have hA9 : ∀ w ∈ WA, w.before _ s = true := fun w h => atoms_spec (ws := .code yL_checkNumber bL_checkNumber 2 none :: WA) B.pre w (List.mem_cons_of_mem _ h)
  have hown : s.vm.findClass RL = some m.cls := findClass_of_methodNamed B.named
  have hlocks := B.notSynchronized
  subst hsz
  have hD := aw_D (sz := s.heap.size) hD0
  generalize hAe : AW N ad s.heap.size = A at hD hE ⊢
  have hA : ∀ q, s.heap.size ≤ q → A q := fun q h => by rw [← hAe]; exact Or.inr h
  clear hAe hD0
  obtain ⟨-, -, ⟨g39, s39⟩, ⟨g52, s52⟩, ⟨g92, s92⟩, ⟨g94, s94⟩, ⟨g70, s70⟩, ⟨g76, s76⟩, ⟨g90, s90⟩, -⟩ := id hE
  have hl := lv_entry ([.int (x), .int (nI g)]) (n := 2) (Nat.le_of_ble_eq_true rfl)
  rw [lg_entry_eq]
  generalize (lg_sl ([.int (x), .int (nI g)]) ++ List.replicate (2 - (lg_sl ([.int (x), .int (nI g)])).length) Slot.unset).toArray = ls at hl ⊢
  have hl : lv_has ls 2 [(0, .int (x)), (1, .int (nI g))] := hl
  refine st0 (A := A) (fun H locs hS hH => ?_)
  have hU : ∀ q : Nat, q < s.heap.size → H[q]? = s.heap[q]? := fun q _ => by rw [hH]
  rw [← hH] at hP
  clear hH
  refine lv_iload_n hx hb dL_checkNumber_0 rfl (lv_at hl 0 rfl) ?_
  refine lv_if_lt (tgt := 9) hx hb dL_checkNumber_1 (by decide) (fun c1 => ?_) (fun c1 => ?_)
  · skip
    have no : ¬ (∃ y, y ≤ g ∧ x = nI y) := fun ⟨y, q1, q2⟩ => neg_n c1 q2
    exact thr (ik := 37) (ic := 41) hx hb hlt hown (by decide +kernel) (hA9 _ mcL_37) (hA9 _ mn_iae) s92 (hatI hA9 hE) hgdI hE hS hU (hl.1.trans hml.symm) dL_checkNumber_9 dL_checkNumber_12 dL_checkNumber_13 dL_checkNumber_15 dL_checkNumber_18 htab (Nat.le_of_ble_eq_true rfl) (Nat.le_of_ble_eq_true rfl) (Nat.le_of_ble_eq_true rfl) (Nat.le_of_ble_eq_true rfl) hlocks ⟨rfl, no⟩ (by decide) (by decide)
  · skip
    refine lv_iload_n hx hb dL_checkNumber_4 rfl (lv_at hl 0 rfl) ?_
    refine lv_iload_n hx hb dL_checkNumber_5 rfl (lv_at hl 1 rfl) ?_
    refine lv_icmp_le (tgt := 19) hx hb dL_checkNumber_6 (by decide) (fun c6 => ?_) (fun c6 => ?_)
    · skip
      have ok := rg_mk c1 c6
      refine W.widen (k := 1) (n := 6) (by decide) (by decide) ?_
      refine vx_ret ?_
      exact W.vret hx hb hr (fun t ht hW => ⟨⟨(), rfl, ok, trivial⟩, by rw [ht]; exact hS.1, fun q hq _ => by rw [ht]; exact hU q hq⟩) hS.2.2 dL_checkNumber_19
    · skip
      have no : ¬ (∃ y, y ≤ g ∧ x = nI y) := fun ⟨y, q1, q2⟩ => c6 (by rw [q2]; exact nI_le q1 (by omega))
      exact thr (ik := 37) (ic := 41) hx hb hlt hown (by decide +kernel) (hA9 _ mcL_37) (hA9 _ mn_iae) s92 (hatI hA9 hE) hgdI hE hS hU (hl.1.trans hml.symm) dL_checkNumber_9 dL_checkNumber_12 dL_checkNumber_13 dL_checkNumber_15 dL_checkNumber_18 htab (Nat.le_of_ble_eq_true rfl) (Nat.le_of_ble_eq_true rfl) (Nat.le_of_ble_eq_true rfl) (Nat.le_of_ble_eq_true rfl) hlocks ⟨rfl, no⟩ (by decide) (by decide)

set_option maxHeartbeats 4000000 in
set_option maxRecDepth 100000 in
theorem c_L_checkPart (l : Launch) (hlt : l.stackTraces = false) (D : va_G) (cI cO cJ : ClassId) (N : Nat) (ad : Nat → Nat) (ce : Nat → va_E) (sz : Nat) (hN : 34 ≤ N) (os : Nat → Nat → Nat) (n : Nat) (hT : TR cI cO ad ce os n) (rl gc : Nat) (h0 : ce 0 = .inr (2, [.ref (ad 1), .ref (ad 2), .ref (ad 33), .int (nI rl), .int (nI gc)])) (a b : Int32) : vx_Met l yL_checkPart (.code yL_checkPart bL_checkPart 3 none :: WA) ({ frames := 6, cells := 1, slots := 6, locals := 90 }) (PX D (TY cI cO cJ) N ad ce sz [.ref (ad 0), .int (a), .int (b)]) (va_Qv (fun _ : Unit => PA a b n) (fun _ _ => True) (fun _ => False)) (XK (fun E => E = eI ∧ ¬ PA a b n)) 1 6 (AW N ad sz) := by
  refine vx_ofW (cc := bL_checkPart) (maxL := 3) (ret := none) (by decide) rfl ?_
  intro p e s m args below meth c s₁ B hml htab hv
  obtain ⟨rfl, hsz, hP, hK, hD0, hE⟩ := hv
  have hx := B.exec
  have hb := B.bytes
  have hr := B.returns
  have hA9 : ∀ w ∈ WA, w.before _ s = true := fun w h => atoms_spec (ws := .code yL_checkPart bL_checkPart 3 none :: WA) B.pre w (List.mem_cons_of_mem _ h)
  have hown : s.vm.findClass RL = some m.cls := findClass_of_methodNamed B.named
  have hlocks := B.notSynchronized
  subst hsz
  have hD := aw_D (sz := s.heap.size) hD0
  generalize hAe : AW N ad s.heap.size = A at hD hE ⊢
  have hA : ∀ q, s.heap.size ≤ q → A q := fun q h => by rw [← hAe]; exact Or.inr h
  clear hAe hD0
  obtain ⟨-, -, ⟨g39, s39⟩, ⟨g52, s52⟩, ⟨g92, s92⟩, ⟨g94, s94⟩, ⟨g70, s70⟩, ⟨g76, s76⟩, ⟨g90, s90⟩, -⟩ := id hE
  have hl := lv_entry ([.ref (ad 0), .int (a), .int (b)]) (n := 3) (Nat.le_of_ble_eq_true rfl)
  rw [lg_entry_eq]
  generalize (lg_sl ([.ref (ad 0), .int (a), .int (b)]) ++ List.replicate (3 - (lg_sl ([.ref (ad 0), .int (a), .int (b)])).length) Slot.unset).toArray = ls at hl ⊢
  have hl : lv_has ls 3 [(0, .ref (ad 0)), (1, .int (a)), (2, .int (b))] := hl
  refine st0 (A := A) (fun H locs hS hH => ?_)
  have hU : ∀ q : Nat, q < s.heap.size → H[q]? = s.heap[q]? := fun q _ => by rw [hH]
  rw [← hH] at hP
  clear hH
  have hn := hT.2.2.2
  refine lv_iload_n hx hb dL_checkPart_0 rfl (lv_at hl 1 rfl) ?_
  refine lv_if_lt (tgt := 20) hx hb dL_checkPart_1 (by decide) (fun c1 => ?_) (fun c1 => ?_)
  · skip
    have no := pa_1 (b := b) hn c1
    exact thr (ik := 37) (ic := 41) hx hb hlt hown (by decide +kernel) (hA9 _ mcL_37) (hA9 _ mn_iae) s94 (hatI hA9 hE) hgdI hE hS hU (hl.1.trans hml.symm) dL_checkPart_20 dL_checkPart_23 dL_checkPart_24 dL_checkPart_26 dL_checkPart_29 htab (Nat.le_of_ble_eq_true rfl) (Nat.le_of_ble_eq_true rfl) (Nat.le_of_ble_eq_true rfl) (Nat.le_of_ble_eq_true rfl) hlocks ⟨rfl, no⟩ (by decide) (by decide)
  · skip
    refine lv_iload_n hx hb dL_checkPart_4 rfl (lv_at hl 1 rfl) ?_
    refine lv_iload_n hx hb dL_checkPart_5 rfl (lv_at hl 2 rfl) ?_
    refine lv_icmp_gt (tgt := 20) hx hb dL_checkPart_6 (by decide) (fun c6 => ?_) (fun c6 => ?_)
    · skip
      have no := pa_2 hn c6
      exact thr (ik := 37) (ic := 41) hx hb hlt hown (by decide +kernel) (hA9 _ mcL_37) (hA9 _ mn_iae) s94 (hatI hA9 hE) hgdI hE hS hU (hl.1.trans hml.symm) dL_checkPart_20 dL_checkPart_23 dL_checkPart_24 dL_checkPart_26 dL_checkPart_29 htab (Nat.le_of_ble_eq_true rfl) (Nat.le_of_ble_eq_true rfl) (Nat.le_of_ble_eq_true rfl) (Nat.le_of_ble_eq_true rfl) hlocks ⟨rfl, no⟩ (by decide) (by decide)
    · skip
      refine lv_iload_n hx hb dL_checkPart_9 rfl (lv_at hl 2 rfl) ?_
      refine lv_aload_n hx hb dL_checkPart_10 rfl (lv_at hl 0 rfl) ?_
      refine va_get (D := D) (ci := 2) (v := .ref (ad 2)) (C := RL) (T := TL) (N := 5) hx hb hA9 inL hown hK hP 0 (wx_at (by omega) h0) rfl 1 (by decide) (hA9 _ mfL_16) (fun _ h9 => h9) rfl dL_checkPart_11 ?_
      refine vp_callSi (va_runV (As := []) (rest := [.int (b)]) ⟨hx, hb, hml, hown, hA9⟩ (c_T_size l D cI cO cJ N ad ce (by omega) os n hT) (cwV 0 hA9 (gV mlL_46 miT_size msT_size mn_T mkT_size) rfl rfl rfl (by decide +kernel) ⟨Nat.le_of_ble_eq_true rfl, Nat.le_of_ble_eq_true rfl⟩) ⟨PR_bl, wx_recv hK hP (by omega) hT.1 rfl, PR_mk hK hP⟩ rfl rfl hl.1 rfl (lv_room (Nat.le_of_ble_eq_true rfl)) dL_checkPart_14 ⟨Nat.le_of_ble_eq_true rfl, Nat.le_of_ble_eq_true rfl⟩).run (fun r1 hr1 => ?_)
      obtain rfl : r1 = nI n := hr1
      refine lv_icmp_le (tgt := 30) hx hb dL_checkPart_17 (by decide) (fun c17 => ?_) (fun c17 => ?_)
      · skip
        have ok : PA a b n := pa_mk c1 c6 (le_nlt c17)
        refine W.widen (k := 1) (n := 6) (by decide) (by decide) ?_
        refine vx_ret ?_
        exact W.vret hx hb hr (fun t ht hW => ⟨⟨(), rfl, ok, trivial⟩, by rw [ht]; exact hS.1, fun q hq _ => by rw [ht]; exact hU q hq⟩) hS.2.2 dL_checkPart_30
      · skip
        have no := pa_3 (a := a) hn (nle_lt c17)
        exact thr (ik := 37) (ic := 41) hx hb hlt hown (by decide +kernel) (hA9 _ mcL_37) (hA9 _ mn_iae) s94 (hatI hA9 hE) hgdI hE hS hU (hl.1.trans hml.symm) dL_checkPart_20 dL_checkPart_23 dL_checkPart_24 dL_checkPart_26 dL_checkPart_29 htab (Nat.le_of_ble_eq_true rfl) (Nat.le_of_ble_eq_true rfl) (Nat.le_of_ble_eq_true rfl) (Nat.le_of_ble_eq_true rfl) hlocks ⟨rfl, no⟩ (by decide) (by decide)

set_option maxHeartbeats 4000000 in
set_option maxRecDepth 100000 in
theorem c_L_cut (l : Launch) (hlt : l.stackTraces = false) (D : va_G) (cI cO cJ : ClassId) (N : Nat) (ad : Nat → Nat) (ce : Nat → va_E) (sz : Nat) (hN : 34 ≤ N) (rl gc : Nat) (hrl : rl ≤ 4000) (h0 : ce 0 = .inr (2, [.ref (ad 1), .ref (ad 2), .ref (ad 33), .int (nI rl), .int (nI gc)])) (x : Int32) : vx_Met l yL_cut (.code yL_cut bL_cut 2 (some .int) :: WA) ({ frames := 6, cells := 1, slots := 6, locals := 90 }) (PX D (TY cI cO cJ) N ad ce sz [.ref (ad 0), .int (x)]) (va_Qi (fun (r : Int32) (ce1 : Nat → va_E) => ∃ k, k ≤ rl ∧ x = nI k ∧ r = nI k ∧ (∀ j, j ≠ 0 → ce1 j = ce j) ∧ ce1 0 = .inr (2, [.ref (ad 1), .ref (ad 2), .ref (ad 33), .int (nI k), .int (nI gc)])) (BW D (TY cI cO cJ) N ad (AW N ad sz)) (AW N ad sz)) (XK (fun E => E = eI ∧ ¬ (∃ k, k ≤ rl ∧ x = nI k))) 1 6 (AW N ad sz) := by
  refine vx_ofW (cc := bL_cut) (maxL := 2) (ret := (some .int)) (by decide) rfl ?_
  intro p e s m args below meth c s₁ B hml htab hv
  obtain ⟨rfl, hsz, hP, hK, hD0, hE⟩ := hv
  have hx := B.exec
  have hb := B.bytes
  have hr := B.returns
  have hA9 : ∀ w ∈ WA, w.before _ s = true := fun w h => atoms_spec (ws := .code yL_cut bL_cut 2 (some .int) :: WA) B.pre w (List.mem_cons_of_mem _ h)
  have hown : s.vm.findClass RL = some m.cls := findClass_of_methodNamed B.named
  have hlocks := B.notSynchronized
  subst hsz
  have hD := aw_D (sz := s.heap.size) hD0
  generalize hAe : AW N ad s.heap.size = A at hD hE ⊢
  have hA : ∀ q, s.heap.size ≤ q → A q := fun q h => by rw [← hAe]; exact Or.inr h
  clear hAe hD0
  obtain ⟨-, -, ⟨g39, s39⟩, ⟨g52, s52⟩, ⟨g92, s92⟩, ⟨g94, s94⟩, ⟨g70, s70⟩, ⟨g76, s76⟩, ⟨g90, s90⟩, -⟩ := id hE
  have hl := lv_entry ([.ref (ad 0), .int (x)]) (n := 2) (Nat.le_of_ble_eq_true rfl)
  rw [lg_entry_eq]
  generalize (lg_sl ([.ref (ad 0), .int (x)]) ++ List.replicate (2 - (lg_sl ([.ref (ad 0), .int (x)])).length) Slot.unset).toArray = ls at hl ⊢
  have hl : lv_has ls 2 [(0, .ref (ad 0)), (1, .int (x))] := hl
  refine st0 (A := A) (fun H locs hS hH => ?_)
  have hU : ∀ q : Nat, q < s.heap.size → H[q]? = s.heap[q]? := fun q _ => by rw [hH]
  rw [← hH] at hP
  clear hH
  refine lv_iload_n hx hb dL_cut_0 rfl (lv_at hl 1 rfl) ?_
  refine lv_if_lt (tgt := 12) hx hb dL_cut_1 (by decide) (fun c1 => ?_) (fun c1 => ?_)
  · skip
    have no : ¬ ∃ k, k ≤ rl ∧ x = nI k := fun ⟨k, q1, q2⟩ => neg_n c1 q2
    exact thr (ik := 37) (ic := 41) hx hb hlt hown (by decide +kernel) (hA9 _ mcL_37) (hA9 _ mn_iae) s39 (hatI hA9 hE) hgdI hE hS hU (hl.1.trans hml.symm) dL_cut_12 dL_cut_15 dL_cut_16 dL_cut_18 dL_cut_21 htab (Nat.le_of_ble_eq_true rfl) (Nat.le_of_ble_eq_true rfl) (Nat.le_of_ble_eq_true rfl) (Nat.le_of_ble_eq_true rfl) hlocks ⟨rfl, no⟩ (by decide) (by decide)
  · skip
    refine lv_iload_n hx hb dL_cut_4 rfl (lv_at hl 1 rfl) ?_
    refine lv_aload_n hx hb dL_cut_5 rfl (lv_at hl 0 rfl) ?_
    refine va_get (D := D) (ci := 2) (v := .int (nI rl)) (C := RL) (T := TL) (N := 5) hx hb hA9 inL hown hK hP 0 (wx_at (by omega) h0) rfl 3 (by decide) (hA9 _ mfL_23) (fun _ h9 => h9) rfl dL_cut_6 ?_
    refine lv_icmp_le (tgt := 22) hx hb dL_cut_9 (by decide) (fun c9 => ?_) (fun c9 => ?_)
    · skip
      obtain ⟨k, hk, rfl⟩ := rg_mk c1 c9
      refine lv_aload_n hx hb dL_cut_22 rfl (lv_at hl 0 rfl) ?_
      refine lv_iload_n hx hb dL_cut_23 rfl (lv_at hl 1 rfl) ?_
      refine va_put (D := D) (ci := 2) (v := .int (nI k)) (ty := .int) (C := RL) (T := TL) (N := 5) hx hb hA9 inL tyL tyL_ok nmL hown hK hP hD hS 0 (wx_at (by omega) h0) rfl 3 (by decide) (hA9 _ mfL_23) (fun _ h9 => h9) rfl (by decide +kernel) rfl rfl (Nat.le_of_ble_eq_true rfl) dL_cut_24 (fun H locs hP hD hS => ?_)
      replace hP : va_P D CLS ((wx N ad ce).set 0 (ad 0, .inr (2, [.ref (ad 1), .ref (ad 2), .ref (ad 33), .int (nI k), .int (nI gc)]))) H := hP
      replace hD : va_D A ((wx N ad ce).set 0 (ad 0, .inr (2, [.ref (ad 1), .ref (ad 2), .ref (ad 33), .int (nI k), .int (nI gc)]))) := hD
      obtain ⟨ce1, hce1⟩ : ∃ z9, z9 = va_up ce 0 (.inr (2, [.ref (ad 1), .ref (ad 2), .ref (ad 33), .int (nI k), .int (nI gc)])) := ⟨_, rfl⟩
      rw [wx_set (by omega), ← hce1] at hP hD
      have q1 : ce1 0 = .inr (2, [.ref (ad 1), .ref (ad 2), .ref (ad 33), .int (nI k), .int (nI gc)]) := by rw [hce1, va_up_self]
      have fr2 : ∀ j, j ≠ 0 → ce1 j = ce j := fun j h0 => by rw [hce1, va_up_ne _ _ h0]
      refine lv_iload_n hx hb dL_cut_27 rfl (lv_at hl 1 rfl) ?_
      refine W.widen (k := 1) (n := 6) (by decide) (by decide) ?_
      refine vx_ret ?_
      exact W.iret (v := (nI k)) hx hb hr (fun t ht hW => ⟨⟨(nI k), ce1, rfl, ⟨k, hk, rfl, rfl, (fun j g0 => fr2 j g0), q1⟩, by rw [ht]; exact hP, va_K.moved hW.alike hK, hD⟩, hS.F ht⟩) hS.2.2 dL_cut_28
    · skip
      have no : ¬ ∃ k, k ≤ rl ∧ x = nI k := fun ⟨k, q1, q2⟩ => c9 (by rw [q2]; exact nI_le q1 (by omega))
      exact thr (ik := 37) (ic := 41) hx hb hlt hown (by decide +kernel) (hA9 _ mcL_37) (hA9 _ mn_iae) s39 (hatI hA9 hE) hgdI hE hS hU (hl.1.trans hml.symm) dL_cut_12 dL_cut_15 dL_cut_16 dL_cut_18 dL_cut_21 htab (Nat.le_of_ble_eq_true rfl) (Nat.le_of_ble_eq_true rfl) (Nat.le_of_ble_eq_true rfl) (Nat.le_of_ble_eq_true rfl) hlocks ⟨rfl, no⟩ (by decide) (by decide)

set_option maxHeartbeats 4000000 in
set_option maxRecDepth 100000 in
theorem c_L_at (l : Launch) (hlt : l.stackTraces = false) (D : va_G) (cI cO cJ : ClassId) (N : Nat) (ad : Nat → Nat) (ce : Nat → va_E) (sz : Nat) (hN : 34 ≤ N) (os : Nat → Nat → Nat) (n : Nat) (hT : TR cI cO ad ce os n) (rl gc : Nat) (h0 : ce 0 = .inr (2, [.ref (ad 1), .ref (ad 2), .ref (ad 33), .int (nI rl), .int (nI gc)])) (f : Nat → Nat) (hW : WM f n os) (hf : ∀ i, i < n → f i < 512) (x : Int32) : vx_Met l yL_at (.code yL_at bL_at 2 (some .int) :: WA) ({ frames := 6, cells := 1, slots := 6, locals := 90 }) (PX D (TY cI cO cJ) N ad ce sz [.ref (ad 0), .int (x)]) (va_Qi (fun (r : Int32) (ce1 : Nat → va_E) => ce1 = ce ∧ ∃ k, k < n ∧ x = nI k ∧ r = nI (f k)) (BW D (TY cI cO cJ) N ad (AW N ad sz)) (AW N ad sz)) (XK (fun E => E = eN ∧ ¬ (∃ k, k < n ∧ x = nI k))) 1 6 (AW N ad sz) := by
  refine vx_ofW (cc := bL_at) (maxL := 2) (ret := (some .int)) (by decide) rfl ?_
  intro p e s m args below meth c s₁ B hml htab hv
  obtain ⟨rfl, hsz, hP, hK, hD0, hE⟩ := hv
  have hx := B.exec
  have hb := B.bytes
  have hr := B.returns
  have hA9 : ∀ w ∈ WA, w.before _ s = true := fun w h => atoms_spec (ws := .code yL_at bL_at 2 (some .int) :: WA) B.pre w (List.mem_cons_of_mem _ h)
  have hown : s.vm.findClass RL = some m.cls := findClass_of_methodNamed B.named
  have hlocks := B.notSynchronized
  subst hsz
  have hD := aw_D (sz := s.heap.size) hD0
  generalize hAe : AW N ad s.heap.size = A at hD hE ⊢
  have hA : ∀ q, s.heap.size ≤ q → A q := fun q h => by rw [← hAe]; exact Or.inr h
  clear hAe hD0
  obtain ⟨-, -, ⟨g39, s39⟩, ⟨g52, s52⟩, ⟨g92, s92⟩, ⟨g94, s94⟩, ⟨g70, s70⟩, ⟨g76, s76⟩, ⟨g90, s90⟩, -⟩ := id hE
  have hl := lv_entry ([.ref (ad 0), .int (x)]) (n := 2) (Nat.le_of_ble_eq_true rfl)
  rw [lg_entry_eq]
  generalize (lg_sl ([.ref (ad 0), .int (x)]) ++ List.replicate (2 - (lg_sl ([.ref (ad 0), .int (x)])).length) Slot.unset).toArray = ls at hl ⊢
  have hl : lv_has ls 2 [(0, .ref (ad 0)), (1, .int (x))] := hl
  refine st0 (A := A) (fun H locs hS hH => ?_)
  have hU : ∀ q : Nat, q < s.heap.size → H[q]? = s.heap[q]? := fun q _ => by rw [hH]
  rw [← hH] at hP
  clear hH
  have hn := hT.2.2.2
  refine lv_iload_n hx hb dL_at_0 rfl (lv_at hl 1 rfl) ?_
  refine lv_if_lt (tgt := 15) hx hb dL_at_1 (by decide) (fun c1 => ?_) (fun c1 => ?_)
  · skip
    have no : ¬ ∃ k, k < n ∧ x = nI k := fun ⟨k, q1, q2⟩ => neg_n c1 q2
    exact thrN hx hb hlt hown hA9 s52 hE hS hU (hl.1.trans hml.symm) dL_at_15 dL_at_18 dL_at_19 dL_at_21 dL_at_24 htab (Nat.le_of_ble_eq_true rfl) (Nat.le_of_ble_eq_true rfl) (Nat.le_of_ble_eq_true rfl) (Nat.le_of_ble_eq_true rfl) hlocks ⟨rfl, no⟩ (by decide) (by decide)
  · skip
    refine lv_iload_n hx hb dL_at_4 rfl (lv_at hl 1 rfl) ?_
    refine lv_aload_n hx hb dL_at_5 rfl (lv_at hl 0 rfl) ?_
    refine va_get (D := D) (ci := 2) (v := .ref (ad 2)) (C := RL) (T := TL) (N := 5) hx hb hA9 inL hown hK hP 0 (wx_at (by omega) h0) rfl 1 (by decide) (hA9 _ mfL_16) (fun _ h9 => h9) rfl dL_at_6 ?_
    refine vp_callSi (va_runV (As := []) (rest := [.int (x)]) ⟨hx, hb, hml, hown, hA9⟩ (c_T_size l D cI cO cJ N ad ce (by omega) os n hT) (cwV 0 hA9 (gV mlL_46 miT_size msT_size mn_T mkT_size) rfl rfl rfl (by decide +kernel) ⟨Nat.le_of_ble_eq_true rfl, Nat.le_of_ble_eq_true rfl⟩) ⟨PR_bl, wx_recv hK hP (by omega) hT.1 rfl, PR_mk hK hP⟩ rfl rfl hl.1 rfl (lv_room (Nat.le_of_ble_eq_true rfl)) dL_at_9 ⟨Nat.le_of_ble_eq_true rfl, Nat.le_of_ble_eq_true rfl⟩).run (fun r1 hr1 => ?_)
    obtain rfl : r1 = nI n := hr1
    refine lv_icmp_lt (tgt := 25) hx hb dL_at_12 (by decide) (fun c12 => ?_) (fun c12 => ?_)
    · skip
      obtain ⟨k, hk, rfl⟩ := rl_mk c1 c12
      refine lv_aload_n hx hb dL_at_25 rfl (lv_at hl 0 rfl) ?_
      refine va_get (D := D) (ci := 2) (v := .ref (ad 2)) (C := RL) (T := TL) (N := 5) hx hb hA9 inL hown hK hP 0 (wx_at (by omega) h0) rfl 1 (by decide) (hA9 _ mfL_16) (fun _ h9 => h9) rfl dL_at_26 ?_
      refine lv_iload_n hx hb dL_at_29 rfl (lv_at hl 1 rfl) ?_
      refine vp_callSi (va_runV (As := [.int (nI k)]) (rest := []) ⟨hx, hb, hml, hown, hA9⟩ (c_T_numberAt l D cI cO cJ N ad ce (by omega) os n hT f hW hf k hk) (cwV 1 hA9 (gV mlL_55 miT_numberAt msT_numberAt mn_T mkT_numberAt) rfl rfl rfl (by decide +kernel) ⟨Nat.le_of_ble_eq_true rfl, Nat.le_of_ble_eq_true rfl⟩) ⟨PR_bl, wx_recv hK hP (by omega) hT.1 rfl, PR_mk hK hP⟩ rfl rfl hl.1 rfl (lv_room (Nat.le_of_ble_eq_true rfl)) dL_at_30 ⟨Nat.le_of_ble_eq_true rfl, Nat.le_of_ble_eq_true rfl⟩).run (fun r2 hr2 => ?_)
      obtain rfl : r2 = nI (f k) := hr2
      refine W.widen (k := 1) (n := 6) (by decide) (by decide) ?_
      refine vx_ret ?_
      exact W.iret (v := (nI (f k))) hx hb hr (fun t ht hW => ⟨⟨(nI (f k)), ce, rfl, ⟨rfl, k, hk, rfl, rfl⟩, by rw [ht]; exact hP, va_K.moved hW.alike hK, hD⟩, hS.F ht⟩) hS.2.2 dL_at_33
    · skip
      have no : ¬ ∃ k, k < n ∧ x = nI k := fun ⟨k, q1, q2⟩ => c12 (by rw [q2]; exact nI_lt q1 (by omega))
      exact thrN hx hb hlt hown hA9 s52 hE hS hU (hl.1.trans hml.symm) dL_at_15 dL_at_18 dL_at_19 dL_at_21 dL_at_24 htab (Nat.le_of_ble_eq_true rfl) (Nat.le_of_ble_eq_true rfl) (Nat.le_of_ble_eq_true rfl) (Nat.le_of_ble_eq_true rfl) hlocks ⟨rfl, no⟩ (by decide) (by decide)

set_option maxHeartbeats 4000000 in
set_option maxRecDepth 100000 in
theorem c_L_number (l : Launch) (hlt : l.stackTraces = false) (D : va_G) (cI cO cJ : ClassId) (N : Nat) (ad : Nat → Nat) (ce : Nat → va_E) (sz : Nat) (hN : 34 ≤ N) (rl gc : Nat) (h0 : ce 0 = .inr (2, [.ref (ad 1), .ref (ad 2), .ref (ad 33), .int (nI rl), .int (nI gc)])) (hgc : gc ≤ 512) (gr : Nat → Int32) (h3 : ce 33 = .inl (cI, 512, .inl gr)) (x : Int32) : vx_Met l yL_number (.code yL_number bL_number 2 (some .int) :: WA) ({ frames := 6, cells := 1, slots := 6, locals := 90 }) (PX D (TY cI cO cJ) N ad ce sz [.ref (ad 0), .int (x)]) (va_Qi (fun (r : Int32) (ce1 : Nat → va_E) => ce1 = ce ∧ ∃ k, k < gc ∧ x = nI k ∧ r = gr k) (BW D (TY cI cO cJ) N ad (AW N ad sz)) (AW N ad sz)) (XK (fun E => E = eN ∧ ¬ (∃ k, k < gc ∧ x = nI k))) 1 6 (AW N ad sz) := by
  refine vx_ofW (cc := bL_number) (maxL := 2) (ret := (some .int)) (by decide) rfl ?_
  intro p e s m args below meth c s₁ B hml htab hv
  obtain ⟨rfl, hsz, hP, hK, hD0, hE⟩ := hv
  have hx := B.exec
  have hb := B.bytes
  have hr := B.returns
  have hA9 : ∀ w ∈ WA, w.before _ s = true := fun w h => atoms_spec (ws := .code yL_number bL_number 2 (some .int) :: WA) B.pre w (List.mem_cons_of_mem _ h)
  have hown : s.vm.findClass RL = some m.cls := findClass_of_methodNamed B.named
  have hlocks := B.notSynchronized
  subst hsz
  have hD := aw_D (sz := s.heap.size) hD0
  generalize hAe : AW N ad s.heap.size = A at hD hE ⊢
  have hA : ∀ q, s.heap.size ≤ q → A q := fun q h => by rw [← hAe]; exact Or.inr h
  clear hAe hD0
  obtain ⟨-, -, ⟨g39, s39⟩, ⟨g52, s52⟩, ⟨g92, s92⟩, ⟨g94, s94⟩, ⟨g70, s70⟩, ⟨g76, s76⟩, ⟨g90, s90⟩, -⟩ := id hE
  have hl := lv_entry ([.ref (ad 0), .int (x)]) (n := 2) (Nat.le_of_ble_eq_true rfl)
  rw [lg_entry_eq]
  generalize (lg_sl ([.ref (ad 0), .int (x)]) ++ List.replicate (2 - (lg_sl ([.ref (ad 0), .int (x)])).length) Slot.unset).toArray = ls at hl ⊢
  have hl : lv_has ls 2 [(0, .ref (ad 0)), (1, .int (x))] := hl
  refine st0 (A := A) (fun H locs hS hH => ?_)
  have hU : ∀ q : Nat, q < s.heap.size → H[q]? = s.heap[q]? := fun q _ => by rw [hH]
  rw [← hH] at hP
  clear hH
  refine lv_iload_n hx hb dL_number_0 rfl (lv_at hl 1 rfl) ?_
  refine lv_if_lt (tgt := 12) hx hb dL_number_1 (by decide) (fun c1 => ?_) (fun c1 => ?_)
  · skip
    have no : ¬ ∃ k, k < gc ∧ x = nI k := fun ⟨k, q1, q2⟩ => neg_n c1 q2
    exact thrN hx hb hlt hown hA9 s90 hE hS hU (hl.1.trans hml.symm) dL_number_12 dL_number_15 dL_number_16 dL_number_18 dL_number_21 htab (Nat.le_of_ble_eq_true rfl) (Nat.le_of_ble_eq_true rfl) (Nat.le_of_ble_eq_true rfl) (Nat.le_of_ble_eq_true rfl) hlocks ⟨rfl, no⟩ (by decide) (by decide)
  · skip
    refine lv_iload_n hx hb dL_number_4 rfl (lv_at hl 1 rfl) ?_
    refine lv_aload_n hx hb dL_number_5 rfl (lv_at hl 0 rfl) ?_
    refine va_get (D := D) (ci := 2) (v := .int (nI gc)) (C := RL) (T := TL) (N := 5) hx hb hA9 inL hown hK hP 0 (wx_at (by omega) h0) rfl 4 (by decide) (hA9 _ mfL_27) (fun _ h9 => h9) rfl dL_number_6 ?_
    refine lv_icmp_lt (tgt := 22) hx hb dL_number_9 (by decide) (fun c9 => ?_) (fun c9 => ?_)
    · skip
      obtain ⟨k, hk, rfl⟩ := rl_mk c1 c9
      refine lv_aload_n hx hb dL_number_22 rfl (lv_at hl 0 rfl) ?_
      refine va_get (D := D) (ci := 2) (v := .ref (ad 33)) (C := RL) (T := TL) (N := 5) hx hb hA9 inL hown hK hP 0 (wx_at (by omega) h0) rfl 2 (by decide) (hA9 _ mfL_20) (fun _ h9 => h9) rfl dL_number_23 ?_
      refine lv_iload_n hx hb dL_number_26 rfl (lv_at hl 1 rfl) ?_
      refine va_iald hx hb hK hP 33 0 (wx_at (by omega) h3) rfl (inN) dL_number_27 ?_
      refine lv_topi (fun z1 ez1 => ?_)
      obtain rfl : z1 = gr k := by rw [ez1, clN]
      refine W.widen (k := 1) (n := 6) (by decide) (by decide) ?_
      refine vx_ret ?_
      exact W.iret (v := (gr k)) hx hb hr (fun t ht hW => ⟨⟨(gr k), ce, rfl, ⟨rfl, k, hk, rfl, rfl⟩, by rw [ht]; exact hP, va_K.moved hW.alike hK, hD⟩, hS.F ht⟩) hS.2.2 dL_number_28
    · skip
      have no : ¬ ∃ k, k < gc ∧ x = nI k := fun ⟨k, q1, q2⟩ => c9 (by rw [q2]; exact nI_lt q1 (by omega))
      exact thrN hx hb hlt hown hA9 s90 hE hS hU (hl.1.trans hml.symm) dL_number_12 dL_number_15 dL_number_16 dL_number_18 dL_number_21 htab (Nat.le_of_ble_eq_true rfl) (Nat.le_of_ble_eq_true rfl) (Nat.le_of_ble_eq_true rfl) (Nat.le_of_ble_eq_true rfl) hlocks ⟨rfl, no⟩ (by decide) (by decide)
end
section
set_option maxHeartbeats 4000000 in
set_option maxRecDepth 100000 in
theorem c_L_often (l : Launch) (hlt : l.stackTraces = false) (D : va_G) (cI cO cJ : ClassId) (N : Nat) (ad : Nat → Nat) (ce : Nat → va_E) (sz : Nat) (hN : 34 ≤ N) (os : Nat → Nat → Nat) (n : Nat) (hT : TR cI cO ad ce os n) (rl gc : Nat) (h0 : ce 0 = .inr (2, [.ref (ad 1), .ref (ad 2), .ref (ad 33), .int (nI rl), .int (nI gc)])) (f : Nat → Nat) (hW : WM f n os) (hf : ∀ i, i < n → f i < 512) (x a b : Int32) : vx_Met l yL_often (.code yL_often bL_often 4 (some .int) :: WA) ({ frames := 7, cells := 2, slots := 12, locals := 112 }) (PX D (TY cI cO cJ) N ad ce sz [.ref (ad 0), .int (x), .int (a), .int (b)]) (va_Qi (fun (r : Int32) (ce1 : Nat → va_E) => ce1 = ce ∧ ∃ y u v, y < 512 ∧ u ≤ v ∧ v ≤ n ∧ x = nI y ∧ a = nI u ∧ b = nI v ∧ (r = nI (eq f y u v))) (BW D (TY cI cO cJ) N ad (AW N ad sz)) (AW N ad sz)) (XK (fun E => E = eI ∧ ¬ QA 512 x a b n)) 2 12 (AW N ad sz) := by
  refine vx_ofW (cc := bL_often) (maxL := 4) (ret := (some .int)) (by decide) rfl ?_
  intro p e s m args below meth c s₁ B hml htab hv
  obtain ⟨rfl, hsz, hP, hK, hD0, hE⟩ := hv
  have hx := B.exec
  have hb := B.bytes
  have hr := B.returns
  have hA9 : ∀ w ∈ WA, w.before _ s = true := fun w h => atoms_spec (ws := .code yL_often bL_often 4 (some .int) :: WA) B.pre w (List.mem_cons_of_mem _ h)
  have hown : s.vm.findClass RL = some m.cls := findClass_of_methodNamed B.named
  have hlocks := B.notSynchronized
  subst hsz
  have hD := aw_D (sz := s.heap.size) hD0
  generalize hAe : AW N ad s.heap.size = A at hD hE ⊢
  have hA : ∀ q, s.heap.size ≤ q → A q := fun q h => by rw [← hAe]; exact Or.inr h
  clear hAe hD0
  obtain ⟨-, -, ⟨g39, s39⟩, ⟨g52, s52⟩, ⟨g92, s92⟩, ⟨g94, s94⟩, ⟨g70, s70⟩, ⟨g76, s76⟩, ⟨g90, s90⟩, -⟩ := id hE
  have hl := lv_entry ([.ref (ad 0), .int (x), .int (a), .int (b)]) (n := 4) (Nat.le_of_ble_eq_true rfl)
  rw [lg_entry_eq]
  generalize (lg_sl ([.ref (ad 0), .int (x), .int (a), .int (b)]) ++ List.replicate (4 - (lg_sl ([.ref (ad 0), .int (x), .int (a), .int (b)])).length) Slot.unset).toArray = ls at hl ⊢
  have hl : lv_has ls 4 [(0, .ref (ad 0)), (1, .int (x)), (2, .int (a)), (3, .int (b))] := hl
  refine st0 (A := A) (fun H locs hS hH => ?_)
  have hU : ∀ q : Nat, q < s.heap.size → H[q]? = s.heap[q]? := fun q _ => by rw [hH]
  rw [← hH] at hP
  clear hH
  have hn := hT.2.2.2
  refine lv_iload_n hx hb dL_often_0 rfl (lv_at hl 1 rfl) ?_
  refine lv_sipush (v := nI 511) hx hb dL_often_1 (by decide +kernel) ?_
  refine chk (P0 := fun E => E = eI ∧ ¬ (∃ y, y ≤ 511 ∧ x = nI y)) hlocks htab (vx_runS (As := [.int (x), .int (nI 511)]) (rest := []) ⟨hx, hb, hml, hown, hA9⟩ (c_L_checkNumber l hlt D cI cO cJ N ad ce H.size x 511 (by omega)) (va_cwS 2 hA9 (gS mlL_59 mtL_checkNumber mn_L mkL_checkNumber) rfl rfl rfl (by decide +kernel) ⟨Nat.le_of_ble_eq_true rfl, Nat.le_of_ble_eq_true rfl⟩) ⟨PX_bl, PX_mk hK hP hD hE hS hA⟩ rfl rfl hl.1 rfl (lv_room (Nat.le_of_ble_eq_true rfl)) dL_often_4 ⟨Nat.le_of_ble_eq_true rfl, Nat.le_of_ble_eq_true rfl⟩) hS hP hD hA hU (fun E h => ⟨h.1, fun ⟨y, u, v, q1, q2, q3, e1, e2, e3⟩ => h.2 ⟨y, by omega, e1⟩⟩) (by decide) (by decide) (fun H locs hq hP hS hU => ?_)
  obtain ⟨y, hy, rfl⟩ := hq
  refine lv_aload_n hx hb dL_often_7 rfl (lv_at hl 0 rfl) ?_
  refine lv_iload_n hx hb dL_often_8 rfl (lv_at hl 2 rfl) ?_
  refine lv_iload_n hx hb dL_often_9 rfl (lv_at hl 3 rfl) ?_
  refine chk (P0 := fun E => E = eI ∧ ¬ PA (a) (b) n) hlocks htab (vx_runV (As := [.int (a), .int (b)]) (rest := []) ⟨hx, hb, hml, hown, hA9⟩ (c_L_checkPart l hlt D cI cO cJ N ad ce H.size hN os n hT rl gc h0 (a) (b)) (cwV 2 hA9 (gV mlL_63 miL_checkPart msL_checkPart mn_L mkL_checkPart) rfl rfl rfl (by decide +kernel) ⟨Nat.le_of_ble_eq_true rfl, Nat.le_of_ble_eq_true rfl⟩) ⟨PX_bl, wx_recv hK hP (by omega) h0 rfl, PX_mk hK hP hD hE hS hA⟩ rfl rfl hl.1 rfl (lv_room (Nat.le_of_ble_eq_true rfl)) dL_often_10 ⟨Nat.le_of_ble_eq_true rfl, Nat.le_of_ble_eq_true rfl⟩) hS hP hD hA hU (fun E h => ⟨h.1, fun q => h.2 (qa_p q)⟩) (by decide) (by decide) (fun H locs hq hP hS hU => ?_)
  obtain ⟨u, v, huv, hv, rfl, rfl⟩ := hq
  refine lv_aload_n hx hb dL_often_13 rfl (lv_at hl 0 rfl) ?_
  refine va_get (D := D) (ci := 2) (v := .ref (ad 2)) (C := RL) (T := TL) (N := 5) hx hb hA9 inL hown hK hP 0 (wx_at (by omega) h0) rfl 1 (by decide) (hA9 _ mfL_16) (fun _ h9 => h9) rfl dL_often_14 ?_
  refine lv_iload_n hx hb dL_often_17 rfl (lv_at hl 1 rfl) ?_
  refine lv_iload_n hx hb dL_often_18 rfl (lv_at hl 2 rfl) ?_
  refine lv_iload_n hx hb dL_often_19 rfl (lv_at hl 3 rfl) ?_
  refine vp_callSi (va_runV (As := [.int (nI y), .int (nI u), .int (nI v)]) (rest := []) ⟨hx, hb, hml, hown, hA9⟩ (c_T_timesOf l D cI cO cJ N ad ce (by omega) os n hT f hW hf y (by omega) u v huv hv) (cwV 3 hA9 (gV mlL_66 miT_timesOf msT_timesOf mn_T mkT_timesOf) rfl rfl rfl (by decide +kernel) ⟨Nat.le_of_ble_eq_true rfl, Nat.le_of_ble_eq_true rfl⟩) ⟨PR_bl, wx_recv hK hP (by omega) hT.1 rfl, PR_mk hK hP⟩ rfl rfl hl.1 rfl (lv_room (Nat.le_of_ble_eq_true rfl)) dL_often_20 ⟨Nat.le_of_ble_eq_true rfl, Nat.le_of_ble_eq_true rfl⟩).run (fun r1 hr1 => ?_)
  obtain rfl : r1 = nI (eq f y u v) := hr1
  refine W.widen (k := 2) (n := 12) (by decide) (by decide) ?_
  refine vx_ret ?_
  exact W.iret (v := (nI (eq f y u v))) hx hb hr (fun t ht hW => ⟨⟨(nI (eq f y u v)), ce, rfl, ⟨rfl, y, u, v, by omega, huv, hv, rfl, rfl, rfl, rfl⟩, by rw [ht]; exact hP, va_K.moved hW.alike hK, hD⟩, hS.F ht⟩) hS.2.2 dL_often_23

set_option maxHeartbeats 4000000 in
set_option maxRecDepth 100000 in
theorem c_L_below (l : Launch) (hlt : l.stackTraces = false) (D : va_G) (cI cO cJ : ClassId) (N : Nat) (ad : Nat → Nat) (ce : Nat → va_E) (sz : Nat) (hN : 34 ≤ N) (os : Nat → Nat → Nat) (n : Nat) (hT : TR cI cO ad ce os n) (rl gc : Nat) (h0 : ce 0 = .inr (2, [.ref (ad 1), .ref (ad 2), .ref (ad 33), .int (nI rl), .int (nI gc)])) (f : Nat → Nat) (hW : WM f n os) (hf : ∀ i, i < n → f i < 512) (x a b : Int32) : vx_Met l yL_below (.code yL_below bL_below 4 (some .int) :: WA) ({ frames := 7, cells := 2, slots := 12, locals := 112 }) (PX D (TY cI cO cJ) N ad ce sz [.ref (ad 0), .int (x), .int (a), .int (b)]) (va_Qi (fun (r : Int32) (ce1 : Nat → va_E) => ce1 = ce ∧ ∃ y u v, y < 513 ∧ u ≤ v ∧ v ≤ n ∧ x = nI y ∧ a = nI u ∧ b = nI v ∧ (r = nI (lq f y u v))) (BW D (TY cI cO cJ) N ad (AW N ad sz)) (AW N ad sz)) (XK (fun E => E = eI ∧ ¬ QA 513 x a b n)) 2 12 (AW N ad sz) := by
  refine vx_ofW (cc := bL_below) (maxL := 4) (ret := (some .int)) (by decide) rfl ?_
  intro p e s m args below meth c s₁ B hml htab hv
  obtain ⟨rfl, hsz, hP, hK, hD0, hE⟩ := hv
  have hx := B.exec
  have hb := B.bytes
  have hr := B.returns
  have hA9 : ∀ w ∈ WA, w.before _ s = true := fun w h => atoms_spec (ws := .code yL_below bL_below 4 (some .int) :: WA) B.pre w (List.mem_cons_of_mem _ h)
  have hown : s.vm.findClass RL = some m.cls := findClass_of_methodNamed B.named
  have hlocks := B.notSynchronized
  subst hsz
  have hD := aw_D (sz := s.heap.size) hD0
  generalize hAe : AW N ad s.heap.size = A at hD hE ⊢
  have hA : ∀ q, s.heap.size ≤ q → A q := fun q h => by rw [← hAe]; exact Or.inr h
  clear hAe hD0
  obtain ⟨-, -, ⟨g39, s39⟩, ⟨g52, s52⟩, ⟨g92, s92⟩, ⟨g94, s94⟩, ⟨g70, s70⟩, ⟨g76, s76⟩, ⟨g90, s90⟩, -⟩ := id hE
  have hl := lv_entry ([.ref (ad 0), .int (x), .int (a), .int (b)]) (n := 4) (Nat.le_of_ble_eq_true rfl)
  rw [lg_entry_eq]
  generalize (lg_sl ([.ref (ad 0), .int (x), .int (a), .int (b)]) ++ List.replicate (4 - (lg_sl ([.ref (ad 0), .int (x), .int (a), .int (b)])).length) Slot.unset).toArray = ls at hl ⊢
  have hl : lv_has ls 4 [(0, .ref (ad 0)), (1, .int (x)), (2, .int (a)), (3, .int (b))] := hl
  refine st0 (A := A) (fun H locs hS hH => ?_)
  have hU : ∀ q : Nat, q < s.heap.size → H[q]? = s.heap[q]? := fun q _ => by rw [hH]
  rw [← hH] at hP
  clear hH
  have hn := hT.2.2.2
  refine lv_iload_n hx hb dL_below_0 rfl (lv_at hl 1 rfl) ?_
  refine lv_sipush (v := nI 512) hx hb dL_below_1 (by decide +kernel) ?_
  refine chk (P0 := fun E => E = eI ∧ ¬ (∃ y, y ≤ 512 ∧ x = nI y)) hlocks htab (vx_runS (As := [.int (x), .int (nI 512)]) (rest := []) ⟨hx, hb, hml, hown, hA9⟩ (c_L_checkNumber l hlt D cI cO cJ N ad ce H.size x 512 (by omega)) (va_cwS 2 hA9 (gS mlL_59 mtL_checkNumber mn_L mkL_checkNumber) rfl rfl rfl (by decide +kernel) ⟨Nat.le_of_ble_eq_true rfl, Nat.le_of_ble_eq_true rfl⟩) ⟨PX_bl, PX_mk hK hP hD hE hS hA⟩ rfl rfl hl.1 rfl (lv_room (Nat.le_of_ble_eq_true rfl)) dL_below_4 ⟨Nat.le_of_ble_eq_true rfl, Nat.le_of_ble_eq_true rfl⟩) hS hP hD hA hU (fun E h => ⟨h.1, fun ⟨y, u, v, q1, q2, q3, e1, e2, e3⟩ => h.2 ⟨y, by omega, e1⟩⟩) (by decide) (by decide) (fun H locs hq hP hS hU => ?_)
  obtain ⟨y, hy, rfl⟩ := hq
  refine lv_aload_n hx hb dL_below_7 rfl (lv_at hl 0 rfl) ?_
  refine lv_iload_n hx hb dL_below_8 rfl (lv_at hl 2 rfl) ?_
  refine lv_iload_n hx hb dL_below_9 rfl (lv_at hl 3 rfl) ?_
  refine chk (P0 := fun E => E = eI ∧ ¬ PA (a) (b) n) hlocks htab (vx_runV (As := [.int (a), .int (b)]) (rest := []) ⟨hx, hb, hml, hown, hA9⟩ (c_L_checkPart l hlt D cI cO cJ N ad ce H.size hN os n hT rl gc h0 (a) (b)) (cwV 2 hA9 (gV mlL_63 miL_checkPart msL_checkPart mn_L mkL_checkPart) rfl rfl rfl (by decide +kernel) ⟨Nat.le_of_ble_eq_true rfl, Nat.le_of_ble_eq_true rfl⟩) ⟨PX_bl, wx_recv hK hP (by omega) h0 rfl, PX_mk hK hP hD hE hS hA⟩ rfl rfl hl.1 rfl (lv_room (Nat.le_of_ble_eq_true rfl)) dL_below_10 ⟨Nat.le_of_ble_eq_true rfl, Nat.le_of_ble_eq_true rfl⟩) hS hP hD hA hU (fun E h => ⟨h.1, fun q => h.2 (qa_p q)⟩) (by decide) (by decide) (fun H locs hq hP hS hU => ?_)
  obtain ⟨u, v, huv, hv, rfl, rfl⟩ := hq
  refine lv_aload_n hx hb dL_below_13 rfl (lv_at hl 0 rfl) ?_
  refine va_get (D := D) (ci := 2) (v := .ref (ad 2)) (C := RL) (T := TL) (N := 5) hx hb hA9 inL hown hK hP 0 (wx_at (by omega) h0) rfl 1 (by decide) (hA9 _ mfL_16) (fun _ h9 => h9) rfl dL_below_14 ?_
  refine lv_iload_n hx hb dL_below_17 rfl (lv_at hl 1 rfl) ?_
  refine lv_iload_n hx hb dL_below_18 rfl (lv_at hl 2 rfl) ?_
  refine lv_iload_n hx hb dL_below_19 rfl (lv_at hl 3 rfl) ?_
  refine vp_callSi (va_runV (As := [.int (nI y), .int (nI u), .int (nI v)]) (rest := []) ⟨hx, hb, hml, hown, hA9⟩ (c_T_countBelow l D cI cO cJ N ad ce (by omega) os n hT f hW hf y (by omega) u v huv hv) (cwV 3 hA9 (gV mlL_84 miT_countBelow msT_countBelow mn_T mkT_countBelow) rfl rfl rfl (by decide +kernel) ⟨Nat.le_of_ble_eq_true rfl, Nat.le_of_ble_eq_true rfl⟩) ⟨PR_bl, wx_recv hK hP (by omega) hT.1 rfl, PR_mk hK hP⟩ rfl rfl hl.1 rfl (lv_room (Nat.le_of_ble_eq_true rfl)) dL_below_20 ⟨Nat.le_of_ble_eq_true rfl, Nat.le_of_ble_eq_true rfl⟩).run (fun r1 hr1 => ?_)
  obtain rfl : r1 = nI (lq f y u v) := hr1
  refine W.widen (k := 2) (n := 12) (by decide) (by decide) ?_
  refine vx_ret ?_
  exact W.iret (v := (nI (lq f y u v))) hx hb hr (fun t ht hW => ⟨⟨(nI (lq f y u v)), ce, rfl, ⟨rfl, y, u, v, by omega, huv, hv, rfl, rfl, rfl, rfl⟩, by rw [ht]; exact hP, va_K.moved hW.alike hK, hD⟩, hS.F ht⟩) hS.2.2 dL_below_23

set_option maxHeartbeats 4000000 in
set_option maxRecDepth 100000 in
theorem c_L_before (l : Launch) (hlt : l.stackTraces = false) (D : va_G) (cI cO cJ : ClassId) (N : Nat) (ad : Nat → Nat) (ce : Nat → va_E) (sz : Nat) (hN : 34 ≤ N) (os : Nat → Nat → Nat) (n : Nat) (hT : TR cI cO ad ce os n) (rl gc : Nat) (h0 : ce 0 = .inr (2, [.ref (ad 1), .ref (ad 2), .ref (ad 33), .int (nI rl), .int (nI gc)])) (f : Nat → Nat) (hW : WM f n os) (hf : ∀ i, i < n → f i < 512) (x a b : Int32) : vx_Met l yL_before (.code yL_before bL_before 5 (some .int) :: WA) ({ frames := 7, cells := 2, slots := 12, locals := 112 }) (PX D (TY cI cO cJ) N ad ce sz [.ref (ad 0), .int (x), .int (a), .int (b)]) (va_Qi (fun (r : Int32) (ce1 : Nat → va_E) => ce1 = ce ∧ ∃ y u v, y < 512 ∧ u ≤ v ∧ v ≤ n ∧ x = nI y ∧ a = nI u ∧ b = nI v ∧ (∃ o, r = bI o ∧ BM f y u v o)) (BW D (TY cI cO cJ) N ad (AW N ad sz)) (AW N ad sz)) (XK (fun E => E = eI ∧ ¬ QA 512 x a b n)) 2 12 (AW N ad sz) := by
  refine vx_ofW (cc := bL_before) (maxL := 5) (ret := (some .int)) (by decide) rfl ?_
  intro p e s m args below meth c s₁ B hml htab hv
  obtain ⟨rfl, hsz, hP, hK, hD0, hE⟩ := hv
  have hx := B.exec
  have hb := B.bytes
  have hr := B.returns
  have hA9 : ∀ w ∈ WA, w.before _ s = true := fun w h => atoms_spec (ws := .code yL_before bL_before 5 (some .int) :: WA) B.pre w (List.mem_cons_of_mem _ h)
  have hown : s.vm.findClass RL = some m.cls := findClass_of_methodNamed B.named
  have hlocks := B.notSynchronized
  subst hsz
  have hD := aw_D (sz := s.heap.size) hD0
  generalize hAe : AW N ad s.heap.size = A at hD hE ⊢
  have hA : ∀ q, s.heap.size ≤ q → A q := fun q h => by rw [← hAe]; exact Or.inr h
  clear hAe hD0
  obtain ⟨-, -, ⟨g39, s39⟩, ⟨g52, s52⟩, ⟨g92, s92⟩, ⟨g94, s94⟩, ⟨g70, s70⟩, ⟨g76, s76⟩, ⟨g90, s90⟩, -⟩ := id hE
  have hl := lv_entry ([.ref (ad 0), .int (x), .int (a), .int (b)]) (n := 5) (Nat.le_of_ble_eq_true rfl)
  rw [lg_entry_eq]
  generalize (lg_sl ([.ref (ad 0), .int (x), .int (a), .int (b)]) ++ List.replicate (5 - (lg_sl ([.ref (ad 0), .int (x), .int (a), .int (b)])).length) Slot.unset).toArray = ls at hl ⊢
  have hl : lv_has ls 5 [(0, .ref (ad 0)), (1, .int (x)), (2, .int (a)), (3, .int (b))] := hl
  refine st0 (A := A) (fun H locs hS hH => ?_)
  have hU : ∀ q : Nat, q < s.heap.size → H[q]? = s.heap[q]? := fun q _ => by rw [hH]
  rw [← hH] at hP
  clear hH
  have hn := hT.2.2.2
  refine lv_iload_n hx hb dL_before_0 rfl (lv_at hl 1 rfl) ?_
  refine lv_sipush (v := nI 511) hx hb dL_before_1 (by decide +kernel) ?_
  refine chk (P0 := fun E => E = eI ∧ ¬ (∃ y, y ≤ 511 ∧ x = nI y)) hlocks htab (vx_runS (As := [.int (x), .int (nI 511)]) (rest := []) ⟨hx, hb, hml, hown, hA9⟩ (c_L_checkNumber l hlt D cI cO cJ N ad ce H.size x 511 (by omega)) (va_cwS 2 hA9 (gS mlL_59 mtL_checkNumber mn_L mkL_checkNumber) rfl rfl rfl (by decide +kernel) ⟨Nat.le_of_ble_eq_true rfl, Nat.le_of_ble_eq_true rfl⟩) ⟨PX_bl, PX_mk hK hP hD hE hS hA⟩ rfl rfl hl.1 rfl (lv_room (Nat.le_of_ble_eq_true rfl)) dL_before_4 ⟨Nat.le_of_ble_eq_true rfl, Nat.le_of_ble_eq_true rfl⟩) hS hP hD hA hU (fun E h => ⟨h.1, fun ⟨y, u, v, q1, q2, q3, e1, e2, e3⟩ => h.2 ⟨y, by omega, e1⟩⟩) (by decide) (by decide) (fun H locs hq hP hS hU => ?_)
  obtain ⟨y, hy, rfl⟩ := hq
  refine lv_aload_n hx hb dL_before_7 rfl (lv_at hl 0 rfl) ?_
  refine lv_iload_n hx hb dL_before_8 rfl (lv_at hl 2 rfl) ?_
  refine lv_iload_n hx hb dL_before_9 rfl (lv_at hl 3 rfl) ?_
  refine chk (P0 := fun E => E = eI ∧ ¬ PA (a) (b) n) hlocks htab (vx_runV (As := [.int (a), .int (b)]) (rest := []) ⟨hx, hb, hml, hown, hA9⟩ (c_L_checkPart l hlt D cI cO cJ N ad ce H.size hN os n hT rl gc h0 (a) (b)) (cwV 2 hA9 (gV mlL_63 miL_checkPart msL_checkPart mn_L mkL_checkPart) rfl rfl rfl (by decide +kernel) ⟨Nat.le_of_ble_eq_true rfl, Nat.le_of_ble_eq_true rfl⟩) ⟨PX_bl, wx_recv hK hP (by omega) h0 rfl, PX_mk hK hP hD hE hS hA⟩ rfl rfl hl.1 rfl (lv_room (Nat.le_of_ble_eq_true rfl)) dL_before_10 ⟨Nat.le_of_ble_eq_true rfl, Nat.le_of_ble_eq_true rfl⟩) hS hP hD hA hU (fun E h => ⟨h.1, fun q => h.2 (qa_p q)⟩) (by decide) (by decide) (fun H locs hq hP hS hU => ?_)
  obtain ⟨u, v, huv, hv, rfl, rfl⟩ := hq
  refine lv_aload_n hx hb dL_before_13 rfl (lv_at hl 0 rfl) ?_
  refine va_get (D := D) (ci := 2) (v := .ref (ad 2)) (C := RL) (T := TL) (N := 5) hx hb hA9 inL hown hK hP 0 (wx_at (by omega) h0) rfl 1 (by decide) (hA9 _ mfL_16) (fun _ h9 => h9) rfl dL_before_14 ?_
  refine lv_iload_n hx hb dL_before_17 rfl (lv_at hl 1 rfl) ?_
  refine lv_iconst (v := nI 1) hx hb dL_before_18 (by decide +kernel) ?_
  refine lv_iadd hx hb dL_before_19 ?_
  refine lv_topi (fun z1 ez1 => ?_)
  obtain rfl : z1 = nI (y + 1) := by rw [ez1]; exact nI_add _ _
  refine lv_iload_n hx hb dL_before_20 rfl (lv_at hl 2 rfl) ?_
  refine lv_iload_n hx hb dL_before_21 rfl (lv_at hl 3 rfl) ?_
  refine vp_callSi (va_runV (As := [.int (nI (y + 1)), .int (nI u), .int (nI v)]) (rest := []) ⟨hx, hb, hml, hown, hA9⟩ (c_T_countBelow l D cI cO cJ N ad ce (by omega) os n hT f hW hf (y + 1) (by omega) u v huv hv) (cwV 3 hA9 (gV mlL_84 miT_countBelow msT_countBelow mn_T mkT_countBelow) rfl rfl rfl (by decide +kernel) ⟨Nat.le_of_ble_eq_true rfl, Nat.le_of_ble_eq_true rfl⟩) ⟨PR_bl, wx_recv hK hP (by omega) hT.1 rfl, PR_mk hK hP⟩ rfl rfl hl.1 rfl (lv_room (Nat.le_of_ble_eq_true rfl)) dL_before_22 ⟨Nat.le_of_ble_eq_true rfl, Nat.le_of_ble_eq_true rfl⟩).run (fun r2 hr2 => ?_)
  obtain rfl : r2 = nI (lq f (y + 1) u v) := hr2
  refine lv_istore (lv' := [(4, .int (nI (lq f (y + 1) u v))), (0, .ref (ad 0)), (1, .int (nI y)), (2, .int (nI u)), (3, .int (nI v))]) hx hb dL_before_25 hl (by decide) rfl (fun ls hl => ?_)
  refine lv_iload hx hb dL_before_27 (lv_at hl 0 rfl) ?_
  refine lv_if_ne (tgt := 36) hx hb dL_before_29 (by decide) (fun c29 => ?_) (fun c29 => ?_)
  · skip
    have ll := lq_le f (y + 1) huv
    have hp : 0 < lq f (y + 1) u v := Nat.pos_of_ne_zero (neN (b := 0) (fun q => c29 (q.trans nI_0)))
    refine lv_aload_n hx hb dL_before_36 rfl (lv_at hl 1 rfl) ?_
    refine va_get (D := D) (ci := 2) (v := .ref (ad 2)) (C := RL) (T := TL) (N := 5) hx hb hA9 inL hown hK hP 0 (wx_at (by omega) h0) rfl 1 (by decide) (hA9 _ mfL_16) (fun _ h9 => h9) rfl dL_before_37 ?_
    refine lv_iload_n hx hb dL_before_40 rfl (lv_at hl 3 rfl) ?_
    refine lv_iload_n hx hb dL_before_41 rfl (lv_at hl 4 rfl) ?_
    refine lv_iload hx hb dL_before_42 (lv_at hl 0 rfl) ?_
    refine lv_iconst (v := nI 1) hx hb dL_before_44 (by decide +kernel) ?_
    refine lv_isub hx hb dL_before_45 ?_
    refine lv_topi (fun z3 ez3 => ?_)
    obtain rfl : z3 = nI (lq f (y + 1) u v - 1) := by rw [ez3]; exact pk_sub hp
    refine vp_callSi (va_runV (As := [.int (nI u), .int (nI v), .int (nI (lq f (y + 1) u v - 1))]) (rest := []) ⟨hx, hb, hml, hown, hA9⟩ (c_T_groupOf l D cI cO cJ N ad ce (by omega) os n hT f hW hf u v huv hv (lq f (y + 1) u v - 1) (by omega)) (cwV 3 hA9 (gV mlL_78 miT_groupOf msT_groupOf mn_T mkT_groupOf) rfl rfl rfl (by decide +kernel) ⟨Nat.le_of_ble_eq_true rfl, Nat.le_of_ble_eq_true rfl⟩) ⟨PR_bl, wx_recv hK hP (by omega) hT.1 rfl, PR_mk hK hP⟩ rfl rfl hl.1 rfl (lv_room (Nat.le_of_ble_eq_true rfl)) dL_before_46 ⟨Nat.le_of_ble_eq_true rfl, Nat.le_of_ble_eq_true rfl⟩).run (fun r4 hr4 => ?_)
    obtain ⟨w5, rfl, hkt, hw5⟩ := hr4
    have el := eq_le f w5 huv
    refine vp_callSi (va_runS (As := [.int (nI (w5 * 4096 + eq f w5 u v))]) (rest := []) ⟨hx, hb, hml, hown, hA9⟩ (c_L_numberOf l (w5 * 4096 + eq f w5 u v) (by omega)) (va_cwS 1 hA9 (gS mlL_81 mtL_numberOf mn_L mkL_numberOf) rfl rfl rfl (by decide +kernel) ⟨Nat.le_of_ble_eq_true rfl, Nat.le_of_ble_eq_true rfl⟩) ⟨P0_bl, P0_mk⟩ rfl rfl hl.1 rfl (lv_room (Nat.le_of_ble_eq_true rfl)) dL_before_49 ⟨Nat.le_of_ble_eq_true rfl, Nat.le_of_ble_eq_true rfl⟩).run (fun r5 hr5 => ?_)
    obtain rfl : r5 = nI w5 := hr5.trans (congrArg nI (by omega))
    refine W.widen (k := 2) (n := 12) (by decide) (by decide) ?_
    refine vx_ret ?_
    exact W.iret (v := (nI w5)) hx hb hr (fun t ht hW => ⟨⟨(nI w5), ce, rfl, ⟨rfl, y, u, v, by omega, huv, hv, rfl, rfl, rfl, ⟨some w5, rfl, bm_some huv hp hkt⟩⟩, by rw [ht]; exact hP, va_K.moved hW.alike hK, hD⟩, hS.F ht⟩) hS.2.2 dL_before_52
  · skip
    have ll := lq_le f (y + 1) huv
    have hp : lq f (y + 1) u v = 0 := eqN (b := 0) (c29.trans nI_0.symm)
    refine lv_iconst (v := bI none) hx hb dL_before_32 (by decide +kernel) ?_
    refine lv_goto (tgt := 52) hx hb dL_before_33 (by decide) ?_
    refine W.widen (k := 2) (n := 12) (by decide) (by decide) ?_
    refine vx_ret ?_
    exact W.iret (v := (bI none)) hx hb hr (fun t ht hW => ⟨⟨(bI none), ce, rfl, ⟨rfl, y, u, v, by omega, huv, hv, rfl, rfl, rfl, ⟨none, rfl, bm_none hp⟩⟩, by rw [ht]; exact hP, va_K.moved hW.alike hK, hD⟩, hS.F ht⟩) hS.2.2 dL_before_52

set_option maxHeartbeats 4000000 in
set_option maxRecDepth 100000 in
theorem c_L_place (l : Launch) (hlt : l.stackTraces = false) (D : va_G) (cI cO cJ : ClassId) (N : Nat) (ad : Nat → Nat) (ce : Nat → va_E) (sz : Nat) (hN : 34 ≤ N) (os : Nat → Nat → Nat) (n : Nat) (hT : TR cI cO ad ce os n) (rl gc : Nat) (h0 : ce 0 = .inr (2, [.ref (ad 1), .ref (ad 2), .ref (ad 33), .int (nI rl), .int (nI gc)])) (f : Nat → Nat) (hW : WM f n os) (hf : ∀ i, i < n → f i < 512) (x kx : Int32) : vx_Met l yL_place (.code yL_place bL_place 3 (some .int) :: WA) ({ frames := 7, cells := 2, slots := 12, locals := 113 }) (PX D (TY cI cO cJ) N ad ce sz [.ref (ad 0), .int (x), .int (kx)]) (va_Qi (fun (r : Int32) (ce1 : Nat → va_E) => ce1 = ce ∧ ∃ y i, y < 512 ∧ x = nI y ∧ i < n ∧ f i = y ∧ kx = nI (cn (fun j => decide (f j = y)) i) ∧ r = nI i) (BW D (TY cI cO cJ) N ad (AW N ad sz)) (AW N ad sz)) (XK (fun E => (E = eI ∧ (¬ ∃ y, y < 512 ∧ x = nI y)) ∨ (E = eN ∧ ∃ y, y < 512 ∧ x = nI y ∧ ¬ ∃ i, i < n ∧ f i = y ∧ kx = nI (cn (fun j => decide (f j = y)) i)))) 2 12 (AW N ad sz) := by
  refine vx_ofW (cc := bL_place) (maxL := 3) (ret := (some .int)) (by decide) rfl ?_
  intro p e s m args below meth c s₁ B hml htab hv
  obtain ⟨rfl, hsz, hP, hK, hD0, hE⟩ := hv
  have hx := B.exec
  have hb := B.bytes
  have hr := B.returns
  have hA9 : ∀ w ∈ WA, w.before _ s = true := fun w h => atoms_spec (ws := .code yL_place bL_place 3 (some .int) :: WA) B.pre w (List.mem_cons_of_mem _ h)
  have hown : s.vm.findClass RL = some m.cls := findClass_of_methodNamed B.named
  have hlocks := B.notSynchronized
  subst hsz
  have hD := aw_D (sz := s.heap.size) hD0
  generalize hAe : AW N ad s.heap.size = A at hD hE ⊢
  have hA : ∀ q, s.heap.size ≤ q → A q := fun q h => by rw [← hAe]; exact Or.inr h
  clear hAe hD0
  obtain ⟨-, -, ⟨g39, s39⟩, ⟨g52, s52⟩, ⟨g92, s92⟩, ⟨g94, s94⟩, ⟨g70, s70⟩, ⟨g76, s76⟩, ⟨g90, s90⟩, -⟩ := id hE
  have hl := lv_entry ([.ref (ad 0), .int (x), .int (kx)]) (n := 3) (Nat.le_of_ble_eq_true rfl)
  rw [lg_entry_eq]
  generalize (lg_sl ([.ref (ad 0), .int (x), .int (kx)]) ++ List.replicate (3 - (lg_sl ([.ref (ad 0), .int (x), .int (kx)])).length) Slot.unset).toArray = ls at hl ⊢
  have hl : lv_has ls 3 [(0, .ref (ad 0)), (1, .int (x)), (2, .int (kx))] := hl
  refine st0 (A := A) (fun H locs hS hH => ?_)
  have hU : ∀ q : Nat, q < s.heap.size → H[q]? = s.heap[q]? := fun q _ => by rw [hH]
  rw [← hH] at hP
  clear hH
  have hn := hT.2.2.2
  refine lv_iload_n hx hb dL_place_0 rfl (lv_at hl 1 rfl) ?_
  refine lv_sipush (v := nI 511) hx hb dL_place_1 (by decide +kernel) ?_
  refine chk (P0 := fun E => E = eI ∧ ¬ (∃ y, y ≤ 511 ∧ x = nI y)) hlocks htab (vx_runS (As := [.int (x), .int (nI 511)]) (rest := []) ⟨hx, hb, hml, hown, hA9⟩ (c_L_checkNumber l hlt D cI cO cJ N ad ce H.size x 511 (by omega)) (va_cwS 2 hA9 (gS mlL_59 mtL_checkNumber mn_L mkL_checkNumber) rfl rfl rfl (by decide +kernel) ⟨Nat.le_of_ble_eq_true rfl, Nat.le_of_ble_eq_true rfl⟩) ⟨PX_bl, PX_mk hK hP hD hE hS hA⟩ rfl rfl hl.1 rfl (lv_room (Nat.le_of_ble_eq_true rfl)) dL_place_4 ⟨Nat.le_of_ble_eq_true rfl, Nat.le_of_ble_eq_true rfl⟩) hS hP hD hA hU (fun E h => Or.inl ⟨h.1, fun ⟨y, q1, q2⟩ => h.2 ⟨y, by omega, q2⟩⟩) (by decide) (by decide) (fun H locs hq hP hS hU => ?_)
  obtain ⟨y, hy, rfl⟩ := hq
  refine lv_iload_n hx hb dL_place_7 rfl (lv_at hl 2 rfl) ?_
  refine lv_if_lt (tgt := 31) hx hb dL_place_8 (by decide) (fun c8 => ?_) (fun c8 => ?_)
  · skip
    have no : ¬ ∃ i, i < n ∧ f i = y ∧ kx = nI (cn (fun j => decide (f j = y)) i) := fun ⟨i, q1, q2, q3⟩ => neg_n c8 q3 (by have := cn_le (fun j => decide (f j = y)) i; omega)
    exact thrN hx hb hlt hown hA9 s70 hE hS hU (hl.1.trans hml.symm) dL_place_31 dL_place_34 dL_place_35 dL_place_37 dL_place_40 htab (Nat.le_of_ble_eq_true rfl) (Nat.le_of_ble_eq_true rfl) (Nat.le_of_ble_eq_true rfl) (Nat.le_of_ble_eq_true rfl) hlocks (Or.inr ⟨rfl, y, by omega, rfl, no⟩) (by decide) (by decide)
  · skip
    refine lv_iload_n hx hb dL_place_11 rfl (lv_at hl 2 rfl) ?_
    refine lv_aload_n hx hb dL_place_12 rfl (lv_at hl 0 rfl) ?_
    refine va_get (D := D) (ci := 2) (v := .ref (ad 2)) (C := RL) (T := TL) (N := 5) hx hb hA9 inL hown hK hP 0 (wx_at (by omega) h0) rfl 1 (by decide) (hA9 _ mfL_16) (fun _ h9 => h9) rfl dL_place_13 ?_
    refine lv_iload_n hx hb dL_place_16 rfl (lv_at hl 1 rfl) ?_
    refine lv_iconst (v := nI 0) hx hb dL_place_17 (by decide +kernel) ?_
    refine lv_aload_n hx hb dL_place_18 rfl (lv_at hl 0 rfl) ?_
    refine va_get (D := D) (ci := 2) (v := .ref (ad 2)) (C := RL) (T := TL) (N := 5) hx hb hA9 inL hown hK hP 0 (wx_at (by omega) h0) rfl 1 (by decide) (hA9 _ mfL_16) (fun _ h9 => h9) rfl dL_place_19 ?_
    refine vp_callSi (va_runV (As := []) (rest := [.int (nI 0), .int (nI y), .ref (ad 2), .int (kx)]) ⟨hx, hb, hml, hown, hA9⟩ (c_T_size l D cI cO cJ N ad ce (by omega) os n hT) (cwV 0 hA9 (gV mlL_46 miT_size msT_size mn_T mkT_size) rfl rfl rfl (by decide +kernel) ⟨Nat.le_of_ble_eq_true rfl, Nat.le_of_ble_eq_true rfl⟩) ⟨PR_bl, wx_recv hK hP (by omega) hT.1 rfl, PR_mk hK hP⟩ rfl rfl hl.1 rfl (lv_room (Nat.le_of_ble_eq_true rfl)) dL_place_22 ⟨Nat.le_of_ble_eq_true rfl, Nat.le_of_ble_eq_true rfl⟩).run (fun r1 hr1 => ?_)
    obtain rfl : r1 = nI n := hr1
    refine vp_callSi (va_runV (As := [.int (nI y), .int (nI 0), .int (nI n)]) (rest := [.int (kx)]) ⟨hx, hb, hml, hown, hA9⟩ (c_T_timesOf l D cI cO cJ N ad ce (by omega) os n hT f hW hf y (by omega) 0 n (Nat.zero_le n) (Nat.le_refl n)) (cwV 3 hA9 (gV mlL_66 miT_timesOf msT_timesOf mn_T mkT_timesOf) rfl rfl rfl (by decide +kernel) ⟨Nat.le_of_ble_eq_true rfl, Nat.le_of_ble_eq_true rfl⟩) ⟨PR_bl, wx_recv hK hP (by omega) hT.1 rfl, PR_mk hK hP⟩ rfl rfl hl.1 rfl (lv_room (Nat.le_of_ble_eq_true rfl)) dL_place_25 ⟨Nat.le_of_ble_eq_true rfl, Nat.le_of_ble_eq_true rfl⟩).run (fun r2 hr2 => ?_)
    obtain rfl : r2 = nI (eq f y 0 n) := hr2
    have el := eq_le f y (Nat.zero_le n)
    refine lv_icmp_lt (tgt := 41) hx hb dL_place_28 (by decide) (fun c28 => ?_) (fun c28 => ?_)
    · skip
      obtain ⟨k0, hk0, rfl⟩ := rl_mk c8 c28
      obtain ⟨i0, p1, p2, p3⟩ := cn_kth (p := fun j => decide (f j = y)) (n := n) (k := k0) (by have : eq f y 0 n = cn (fun j => decide (f j = y)) n := rfl; omega)
      have p4 : f i0 = y := of_decide_eq_true p2
      refine lv_aload_n hx hb dL_place_41 rfl (lv_at hl 0 rfl) ?_
      refine va_get (D := D) (ci := 2) (v := .ref (ad 2)) (C := RL) (T := TL) (N := 5) hx hb hA9 inL hown hK hP 0 (wx_at (by omega) h0) rfl 1 (by decide) (hA9 _ mfL_16) (fun _ h9 => h9) rfl dL_place_42 ?_
      refine lv_iload_n hx hb dL_place_45 rfl (lv_at hl 1 rfl) ?_
      refine lv_iload_n hx hb dL_place_46 rfl (lv_at hl 2 rfl) ?_
      refine vp_callSi (va_runV (As := [.int (nI y), .int (nI k0)]) (rest := []) ⟨hx, hb, hml, hown, hA9⟩ (c_T_placeOf l D cI cO cJ N ad ce (by omega) os n hT f hW hf y (by omega) k0 i0 p1 p4 p3) (cwV 2 hA9 (gV mlL_72 miT_placeOf msT_placeOf mn_T mkT_placeOf) rfl rfl rfl (by decide +kernel) ⟨Nat.le_of_ble_eq_true rfl, Nat.le_of_ble_eq_true rfl⟩) ⟨PR_bl, wx_recv hK hP (by omega) hT.1 rfl, PR_mk hK hP⟩ rfl rfl hl.1 rfl (lv_room (Nat.le_of_ble_eq_true rfl)) dL_place_47 ⟨Nat.le_of_ble_eq_true rfl, Nat.le_of_ble_eq_true rfl⟩).run (fun r3 hr3 => ?_)
      obtain rfl : r3 = nI i0 := hr3
      refine W.widen (k := 2) (n := 12) (by decide) (by decide) ?_
      refine vx_ret ?_
      exact W.iret (v := (nI i0)) hx hb hr (fun t ht hW => ⟨⟨(nI i0), ce, rfl, ⟨rfl, y, i0, by omega, rfl, p1, p4, by rw [p3], rfl⟩, by rw [ht]; exact hP, va_K.moved hW.alike hK, hD⟩, hS.F ht⟩) hS.2.2 dL_place_50
    · skip
      have no : ¬ ∃ i, i < n ∧ f i = y ∧ kx = nI (cn (fun j => decide (f j = y)) i) := fun ⟨i, q1, q2, q3⟩ => c28 (by
        rw [q3]
        have b1 := cn_mono (fun j => decide (f j = y)) (show i + 1 ≤ n by omega)
        rw [cn_t (by simp [q2])] at b1
        have b2 : eq f y 0 n = cn (fun j => decide (f j = y)) n := rfl
        exact nI_lt (by omega) (by omega))
      exact thrN hx hb hlt hown hA9 s70 hE hS hU (hl.1.trans hml.symm) dL_place_31 dL_place_34 dL_place_35 dL_place_37 dL_place_40 htab (Nat.le_of_ble_eq_true rfl) (Nat.le_of_ble_eq_true rfl) (Nat.le_of_ble_eq_true rfl) (Nat.le_of_ble_eq_true rfl) hlocks (Or.inr ⟨rfl, y, by omega, rfl, no⟩) (by decide) (by decide)

set_option maxHeartbeats 4000000 in
set_option maxRecDepth 100000 in
theorem c_L_least (l : Launch) (hlt : l.stackTraces = false) (D : va_G) (cI cO cJ : ClassId) (N : Nat) (ad : Nat → Nat) (ce : Nat → va_E) (sz : Nat) (hN : 34 ≤ N) (os : Nat → Nat → Nat) (n : Nat) (hT : TR cI cO ad ce os n) (rl gc : Nat) (h0 : ce 0 = .inr (2, [.ref (ad 1), .ref (ad 2), .ref (ad 33), .int (nI rl), .int (nI gc)])) (f : Nat → Nat) (hW : WM f n os) (hf : ∀ i, i < n → f i < 512) (a b kx : Int32) : vx_Met l yL_least (.code yL_least bL_least 4 (some .int) :: WA) ({ frames := 7, cells := 2, slots := 12, locals := 112 }) (PX D (TY cI cO cJ) N ad ce sz [.ref (ad 0), .int (a), .int (b), .int (kx)]) (va_Qi (fun (r : Int32) (ce1 : Nat → va_E) => ce1 = ce ∧ ∃ u v k0 y, u ≤ v ∧ v ≤ n ∧ a = nI u ∧ b = nI v ∧ k0 < v - u ∧ kx = nI k0 ∧ KT f u v k0 y ∧ r = nI y) (BW D (TY cI cO cJ) N ad (AW N ad sz)) (AW N ad sz)) (XK (fun E => (E = eI ∧ ¬ PA a b n) ∨ (E = eN ∧ ∃ u v, u ≤ v ∧ v ≤ n ∧ a = nI u ∧ b = nI v ∧ ¬ ∃ k0, k0 < v - u ∧ kx = nI k0))) 2 12 (AW N ad sz) := by
  refine vx_ofW (cc := bL_least) (maxL := 4) (ret := (some .int)) (by decide) rfl ?_
  intro p e s m args below meth c s₁ B hml htab hv
  obtain ⟨rfl, hsz, hP, hK, hD0, hE⟩ := hv
  have hx := B.exec
  have hb := B.bytes
  have hr := B.returns
  have hA9 : ∀ w ∈ WA, w.before _ s = true := fun w h => atoms_spec (ws := .code yL_least bL_least 4 (some .int) :: WA) B.pre w (List.mem_cons_of_mem _ h)
  have hown : s.vm.findClass RL = some m.cls := findClass_of_methodNamed B.named
  have hlocks := B.notSynchronized
  subst hsz
  have hD := aw_D (sz := s.heap.size) hD0
  generalize hAe : AW N ad s.heap.size = A at hD hE ⊢
  have hA : ∀ q, s.heap.size ≤ q → A q := fun q h => by rw [← hAe]; exact Or.inr h
  clear hAe hD0
  obtain ⟨-, -, ⟨g39, s39⟩, ⟨g52, s52⟩, ⟨g92, s92⟩, ⟨g94, s94⟩, ⟨g70, s70⟩, ⟨g76, s76⟩, ⟨g90, s90⟩, -⟩ := id hE
  have hl := lv_entry ([.ref (ad 0), .int (a), .int (b), .int (kx)]) (n := 4) (Nat.le_of_ble_eq_true rfl)
  rw [lg_entry_eq]
  generalize (lg_sl ([.ref (ad 0), .int (a), .int (b), .int (kx)]) ++ List.replicate (4 - (lg_sl ([.ref (ad 0), .int (a), .int (b), .int (kx)])).length) Slot.unset).toArray = ls at hl ⊢
  have hl : lv_has ls 4 [(0, .ref (ad 0)), (1, .int (a)), (2, .int (b)), (3, .int (kx))] := hl
  refine st0 (A := A) (fun H locs hS hH => ?_)
  have hU : ∀ q : Nat, q < s.heap.size → H[q]? = s.heap[q]? := fun q _ => by rw [hH]
  rw [← hH] at hP
  clear hH
  have hn := hT.2.2.2
  refine lv_aload_n hx hb dL_least_0 rfl (lv_at hl 0 rfl) ?_
  refine lv_iload_n hx hb dL_least_1 rfl (lv_at hl 1 rfl) ?_
  refine lv_iload_n hx hb dL_least_2 rfl (lv_at hl 2 rfl) ?_
  refine chk (P0 := fun E => E = eI ∧ ¬ PA (a) (b) n) hlocks htab (vx_runV (As := [.int (a), .int (b)]) (rest := []) ⟨hx, hb, hml, hown, hA9⟩ (c_L_checkPart l hlt D cI cO cJ N ad ce H.size hN os n hT rl gc h0 (a) (b)) (cwV 2 hA9 (gV mlL_63 miL_checkPart msL_checkPart mn_L mkL_checkPart) rfl rfl rfl (by decide +kernel) ⟨Nat.le_of_ble_eq_true rfl, Nat.le_of_ble_eq_true rfl⟩) ⟨PX_bl, wx_recv hK hP (by omega) h0 rfl, PX_mk hK hP hD hE hS hA⟩ rfl rfl hl.1 rfl (lv_room (Nat.le_of_ble_eq_true rfl)) dL_least_3 ⟨Nat.le_of_ble_eq_true rfl, Nat.le_of_ble_eq_true rfl⟩) hS hP hD hA hU (fun E h => Or.inl h) (by decide) (by decide) (fun H locs hq hP hS hU => ?_)
  obtain ⟨u, v, huv, hv, rfl, rfl⟩ := hq
  refine lv_iload_n hx hb dL_least_6 rfl (lv_at hl 3 rfl) ?_
  refine lv_if_lt (tgt := 17) hx hb dL_least_7 (by decide) (fun c7 => ?_) (fun c7 => ?_)
  · skip
    have no : ¬ ∃ k0, k0 < v - u ∧ kx = nI k0 := fun ⟨k0, q1, q2⟩ => neg_n c7 q2
    exact thrN hx hb hlt hown hA9 s76 hE hS hU (hl.1.trans hml.symm) dL_least_17 dL_least_20 dL_least_21 dL_least_23 dL_least_26 htab (Nat.le_of_ble_eq_true rfl) (Nat.le_of_ble_eq_true rfl) (Nat.le_of_ble_eq_true rfl) (Nat.le_of_ble_eq_true rfl) hlocks (Or.inr ⟨rfl, u, v, huv, hv, rfl, rfl, no⟩) (by decide) (by decide)
  · skip
    refine lv_iload_n hx hb dL_least_10 rfl (lv_at hl 3 rfl) ?_
    refine lv_iload_n hx hb dL_least_11 rfl (lv_at hl 2 rfl) ?_
    refine lv_iload_n hx hb dL_least_12 rfl (lv_at hl 1 rfl) ?_
    refine lv_isub hx hb dL_least_13 ?_
    refine lv_topi (fun z1 ez1 => ?_)
    obtain rfl : z1 = nI (v - u) := by rw [ez1]; exact pk_sub huv
    refine lv_icmp_lt (tgt := 27) hx hb dL_least_14 (by decide) (fun c14 => ?_) (fun c14 => ?_)
    · skip
      obtain ⟨k0, hk0, rfl⟩ := rl_mk c7 c14
      refine lv_aload_n hx hb dL_least_27 rfl (lv_at hl 0 rfl) ?_
      refine va_get (D := D) (ci := 2) (v := .ref (ad 2)) (C := RL) (T := TL) (N := 5) hx hb hA9 inL hown hK hP 0 (wx_at (by omega) h0) rfl 1 (by decide) (hA9 _ mfL_16) (fun _ h9 => h9) rfl dL_least_28 ?_
      refine lv_iload_n hx hb dL_least_31 rfl (lv_at hl 1 rfl) ?_
      refine lv_iload_n hx hb dL_least_32 rfl (lv_at hl 2 rfl) ?_
      refine lv_iload_n hx hb dL_least_33 rfl (lv_at hl 3 rfl) ?_
      refine vp_callSi (va_runV (As := [.int (nI u), .int (nI v), .int (nI k0)]) (rest := []) ⟨hx, hb, hml, hown, hA9⟩ (c_T_groupOf l D cI cO cJ N ad ce (by omega) os n hT f hW hf u v huv hv (k0) (hk0)) (cwV 3 hA9 (gV mlL_78 miT_groupOf msT_groupOf mn_T mkT_groupOf) rfl rfl rfl (by decide +kernel) ⟨Nat.le_of_ble_eq_true rfl, Nat.le_of_ble_eq_true rfl⟩) ⟨PR_bl, wx_recv hK hP (by omega) hT.1 rfl, PR_mk hK hP⟩ rfl rfl hl.1 rfl (lv_room (Nat.le_of_ble_eq_true rfl)) dL_least_34 ⟨Nat.le_of_ble_eq_true rfl, Nat.le_of_ble_eq_true rfl⟩).run (fun r2 hr2 => ?_)
      obtain ⟨w5, rfl, hkt, hw5⟩ := hr2
      have el := eq_le f w5 huv
      refine vp_callSi (va_runS (As := [.int (nI (w5 * 4096 + eq f w5 u v))]) (rest := []) ⟨hx, hb, hml, hown, hA9⟩ (c_L_numberOf l (w5 * 4096 + eq f w5 u v) (by omega)) (va_cwS 1 hA9 (gS mlL_81 mtL_numberOf mn_L mkL_numberOf) rfl rfl rfl (by decide +kernel) ⟨Nat.le_of_ble_eq_true rfl, Nat.le_of_ble_eq_true rfl⟩) ⟨P0_bl, P0_mk⟩ rfl rfl hl.1 rfl (lv_room (Nat.le_of_ble_eq_true rfl)) dL_least_37 ⟨Nat.le_of_ble_eq_true rfl, Nat.le_of_ble_eq_true rfl⟩).run (fun r3 hr3 => ?_)
      obtain rfl : r3 = nI w5 := hr3.trans (congrArg nI (by omega))
      refine W.widen (k := 2) (n := 12) (by decide) (by decide) ?_
      refine vx_ret ?_
      exact W.iret (v := (nI w5)) hx hb hr (fun t ht hW => ⟨⟨(nI w5), ce, rfl, ⟨rfl, u, v, k0, w5, huv, hv, rfl, rfl, hk0, rfl, hkt, rfl⟩, by rw [ht]; exact hP, va_K.moved hW.alike hK, hD⟩, hS.F ht⟩) hS.2.2 dL_least_40
    · skip
      have no : ¬ ∃ k0, k0 < v - u ∧ kx = nI k0 := fun ⟨k0, q1, q2⟩ => c14 (by rw [q2]; exact nI_lt q1 (by omega))
      exact thrN hx hb hlt hown hA9 s76 hE hS hU (hl.1.trans hml.symm) dL_least_17 dL_least_20 dL_least_21 dL_least_23 dL_least_26 htab (Nat.le_of_ble_eq_true rfl) (Nat.le_of_ble_eq_true rfl) (Nat.le_of_ble_eq_true rfl) (Nat.le_of_ble_eq_true rfl) hlocks (Or.inr ⟨rfl, u, v, huv, hv, rfl, rfl, no⟩) (by decide) (by decide)
end
section
set_option maxHeartbeats 4000000 in
set_option maxRecDepth 100000 in
theorem c_L_different (l : Launch) (hlt : l.stackTraces = false) (D : va_G) (cI cO cJ : ClassId) (N : Nat) (ad : Nat → Nat) (ce : Nat → va_E) (sz : Nat) (hN : 34 ≤ N) (os : Nat → Nat → Nat) (n : Nat) (hT : TR cI cO ad ce os n) (rl gc : Nat) (h0 : ce 0 = .inr (2, [.ref (ad 1), .ref (ad 2), .ref (ad 33), .int (nI rl), .int (nI gc)])) (f : Nat → Nat) (hW : WM f n os) (hf : ∀ i, i < n → f i < 512) (gr : Nat → Int32) (h3 : ce 33 = .inl (cI, 512, .inl gr)) (a b : Int32) : vx_Met l yL_different (.code yL_different bL_different 5 (some .int) :: WA) ({ frames := 7, cells := 1, slots := 6, locals := 112 }) (PX D (TY cI cO cJ) N ad ce sz [.ref (ad 0), .int (a), .int (b)]) (va_Qi (fun (r : Int32) (ce1 : Nat → va_E) => (∀ j, j ≠ 0 → j ≠ 33 → ce1 j = ce j) ∧ ∃ u v, u ≤ v ∧ v ≤ n ∧ a = nI u ∧ b = nI v ∧ r = nI (nd f u v 512) ∧ ce1 0 = .inr (2, [.ref (ad 1), .ref (ad 2), .ref (ad 33), .int (nI rl), .int (nI (nd f u v 512))]) ∧ ∃ gr1 : Nat → Int32, ce1 33 = .inl (cI, 512, .inl gr1) ∧ DG f u v 512 gr1) (BW D (TY cI cO cJ) N ad (AW N ad sz)) (AW N ad sz)) (XK (fun E => E = eI ∧ ¬ PA a b n)) 1 6 (AW N ad sz) := by
  refine vx_ofW (cc := bL_different) (maxL := 5) (ret := (some .int)) (by decide) rfl ?_
  intro p e s m args below meth c s₁ B hml htab hv
  obtain ⟨rfl, hsz, hP, hK, hD0, hE⟩ := hv
  have hx := B.exec
  have hb := B.bytes
  have hr := B.returns
  have hA9 : ∀ w ∈ WA, w.before _ s = true := fun w h => atoms_spec (ws := .code yL_different bL_different 5 (some .int) :: WA) B.pre w (List.mem_cons_of_mem _ h)
  have hown : s.vm.findClass RL = some m.cls := findClass_of_methodNamed B.named
  have hlocks := B.notSynchronized
  subst hsz
  have hD := aw_D (sz := s.heap.size) hD0
  generalize hAe : AW N ad s.heap.size = A at hD hE ⊢
  have hA : ∀ q, s.heap.size ≤ q → A q := fun q h => by rw [← hAe]; exact Or.inr h
  clear hAe hD0
  obtain ⟨-, -, ⟨g39, s39⟩, ⟨g52, s52⟩, ⟨g92, s92⟩, ⟨g94, s94⟩, ⟨g70, s70⟩, ⟨g76, s76⟩, ⟨g90, s90⟩, -⟩ := id hE
  have hl := lv_entry ([.ref (ad 0), .int (a), .int (b)]) (n := 5) (Nat.le_of_ble_eq_true rfl)
  rw [lg_entry_eq]
  generalize (lg_sl ([.ref (ad 0), .int (a), .int (b)]) ++ List.replicate (5 - (lg_sl ([.ref (ad 0), .int (a), .int (b)])).length) Slot.unset).toArray = ls at hl ⊢
  have hl : lv_has ls 5 [(0, .ref (ad 0)), (1, .int (a)), (2, .int (b))] := hl
  refine st0 (A := A) (fun H locs hS hH => ?_)
  have hU : ∀ q : Nat, q < s.heap.size → H[q]? = s.heap[q]? := fun q _ => by rw [hH]
  rw [← hH] at hP
  clear hH
  have hn := hT.2.2.2
  refine lv_aload_n hx hb dL_different_0 rfl (lv_at hl 0 rfl) ?_
  refine lv_iload_n hx hb dL_different_1 rfl (lv_at hl 1 rfl) ?_
  refine lv_iload_n hx hb dL_different_2 rfl (lv_at hl 2 rfl) ?_
  refine chk (P0 := fun E => E = eI ∧ ¬ PA (a) (b) n) hlocks htab (vx_runV (As := [.int (a), .int (b)]) (rest := []) ⟨hx, hb, hml, hown, hA9⟩ (c_L_checkPart l hlt D cI cO cJ N ad ce H.size hN os n hT rl gc h0 (a) (b)) (cwV 2 hA9 (gV mlL_63 miL_checkPart msL_checkPart mn_L mkL_checkPart) rfl rfl rfl (by decide +kernel) ⟨Nat.le_of_ble_eq_true rfl, Nat.le_of_ble_eq_true rfl⟩) ⟨PX_bl, wx_recv hK hP (by omega) h0 rfl, PX_mk hK hP hD hE hS hA⟩ rfl rfl hl.1 rfl (lv_room (Nat.le_of_ble_eq_true rfl)) dL_different_3 ⟨Nat.le_of_ble_eq_true rfl, Nat.le_of_ble_eq_true rfl⟩) hS hP hD hA hU (fun E h => h) (by decide) (by decide) (fun H locs hq hP hS hU => ?_)
  obtain ⟨u, v, huv, hv, rfl, rfl⟩ := hq
  refine lv_iconst (v := nI (lq f 0 u v)) hx hb dL_different_6 (by rw [lq_0 f huv]; decide +kernel) ?_
  refine lv_istore_n (lv' := [(3, .int (nI (lq f 0 u v))), (0, .ref (ad 0)), (1, .int (nI u)), (2, .int (nI v))]) hx hb dL_different_7 rfl hl (by decide) rfl (fun ls hl => ?_)
  refine lv_iconst (v := nI (nd f u v 0)) hx hb dL_different_8 (by rw [show nd f u v 0 = 0 from rfl]; decide +kernel) ?_
  refine lv_istore (lv' := [(4, .int (nI (nd f u v 0))), (3, .int (nI (lq f 0 u v))), (0, .ref (ad 0)), (1, .int (nI u)), (2, .int (nI v))]) hx hb dL_different_9 hl (by decide) rfl (fun ls hl => ?_)
  clear hU
  obtain ⟨cl, hcl0⟩ : ∃ z : Nat → va_E, ce = z := ⟨_, rfl⟩
  obtain ⟨z, hz0⟩ : ∃ z : Nat, (0) = z := ⟨_, rfl⟩
  obtain ⟨gr1, hgr10⟩ : ∃ z : Nat → Int32, (gr) = z := ⟨_, rfl⟩
  replace hl : lv_has ls 5 [(4, .int (nI (nd f u v z))), (3, .int (nI (lq f z u v))), (0, .ref (ad 0)), (1, .int (nI u)), (2, .int (nI v))] := by subst hz0 hgr10; exact lv_sub hl [0, 1, 2, 3, 4] rfl
  have J : (∀ j, j ≠ 33 → cl j = ce j) ∧ cl 33 = .inl (cI, 512, .inl gr1) ∧ z ≤ 512 ∧ DG f u v z gr1 := by
    subst hcl0 hz0 hgr10
    exact ⟨(fun j g0 => rfl), h3, ⟨by omega, fun t ht => absurd ht (by omega)⟩⟩
  rw [hcl0] at hP hD
  clear hcl0 hz0 hgr10
  obtain ⟨k9, hk9⟩ : ∃ z9 : Nat, z9 = 512 - z := ⟨_, rfl⟩
  induction k9 using Nat.strongRecOn generalizing z gr1 cl H locs ls with
  | ind k9 ih =>
    obtain ⟨fr2, q1, JJ⟩ := J
    obtain ⟨j1, j2⟩ := JJ
    have ndz := nd_le f u v z
    have lz := lq_le f z huv
    have hT9 : TR cI cO ad cl os n := hT.cg (fun j hj => fr2 j (by omega))
    refine lv_iload hx hb dL_different_11 (lv_at hl 0 rfl) ?_
    refine lv_sipush (v := nI 512) hx hb dL_different_13 (by decide +kernel) ?_
    refine lv_icmp_ge (tgt := 62) hx hb dL_different_16 (by decide) (fun c16 => ?_) (fun c16 => ?_)
    · skip
      have d1 := leN c16
      have hz9 : z = 512 := by omega
      have fl : ∀ t, z ≤ t → t < 512 → eq f t u v = 0 := fun t q1 q2 => absurd q2 (by omega)
      have nx := nd_ext j1 fl
      rw [← nx] at hl
      refine lv_aload_n hx hb dL_different_62 rfl (lv_at hl 2 rfl) ?_
      refine lv_iload hx hb dL_different_63 (lv_at hl 0 rfl) ?_
      refine va_put (D := D) (ci := 2) (v := .int (nI (nd f u v 512))) (ty := .int) (C := RL) (T := TL) (N := 5) hx hb hA9 inL tyL tyL_ok nmL hown hK hP hD hS 0 (wx_at (by omega) ((fr2 0 (by omega)).trans h0)) rfl 4 (by decide) (hA9 _ mfL_27) (fun _ h9 => h9) rfl (by decide +kernel) rfl rfl (Nat.le_of_ble_eq_true rfl) dL_different_65 (fun H locs hP hD hS => ?_)
      replace hP : va_P D CLS ((wx N ad cl).set 0 (ad 0, .inr (2, [.ref (ad 1), .ref (ad 2), .ref (ad 33), .int (nI rl), .int (nI (nd f u v 512))]))) H := hP
      replace hD : va_D A ((wx N ad cl).set 0 (ad 0, .inr (2, [.ref (ad 1), .ref (ad 2), .ref (ad 33), .int (nI rl), .int (nI (nd f u v 512))]))) := hD
      obtain ⟨ce1, hce1⟩ : ∃ z9, z9 = va_up cl 0 (.inr (2, [.ref (ad 1), .ref (ad 2), .ref (ad 33), .int (nI rl), .int (nI (nd f u v 512))])) := ⟨_, rfl⟩
      rw [wx_set (by omega), ← hce1] at hP hD
      have q3 : ce1 2 = .inr (1, [.ref (ad 3), .ref (ad 4), .ref (ad 5), .int (nI n)]) := by rw [hce1, va_up_ne _ _ (by omega)]; exact ((fr2 2 (by omega)).trans hT.1)
      have q4 : ce1 33 = .inl (cI, 512, .inl gr1) := by rw [hce1, va_up_ne _ _ (by omega)]; exact q1
      have q5 : ce1 0 = .inr (2, [.ref (ad 1), .ref (ad 2), .ref (ad 33), .int (nI rl), .int (nI (nd f u v 512))]) := by rw [hce1, va_up_self]
      have fr6 : ∀ j, j ≠ 33 → j ≠ 0 → ce1 j = ce j := fun j h0 h1 => by rw [hce1, va_up_ne _ _ h1]; exact fr2 j h0
      refine lv_iload hx hb dL_different_68 (lv_at hl 0 rfl) ?_
      refine W.widen (k := 1) (n := 6) (by decide) (by decide) ?_
      refine vx_ret ?_
      exact W.iret (v := (nI (nd f u v 512))) hx hb hr (fun t ht hW => ⟨⟨(nI (nd f u v 512)), ce1, rfl, ⟨(fun j g0 g1 => fr6 j g1 g0), u, v, huv, hv, rfl, rfl, rfl, q5, gr1, q4, j2.ext fl⟩, by rw [ht]; exact hP, va_K.moved hW.alike hK, hD⟩, hS.F ht⟩) hS.2.2 dL_different_70
    · skip
      have d1 := nleN c16
      refine lv_iload_n hx hb dL_different_19 rfl (lv_at hl 1 rfl) ?_
      refine lv_iload_n hx hb dL_different_20 rfl (lv_at hl 4 rfl) ?_
      refine lv_iload_n hx hb dL_different_21 rfl (lv_at hl 3 rfl) ?_
      refine lv_isub hx hb dL_different_22 ?_
      refine lv_topi (fun z7 ez7 => ?_)
      obtain rfl : z7 = nI (v - u) := by rw [ez7]; exact pk_sub huv
      refine lv_icmp_ge (tgt := 62) hx hb dL_different_23 (by decide) (fun c23 => ?_) (fun c23 => ?_)
      · skip
        have d2 := leN c23
        have fl : ∀ t, z ≤ t → t < 512 → eq f t u v = 0 := lq_flat huv (by rw [lq_512 hf huv hv]; exact d2)
        have nx := nd_ext j1 fl
        rw [← nx] at hl
        refine lv_aload_n hx hb dL_different_62 rfl (lv_at hl 2 rfl) ?_
        refine lv_iload hx hb dL_different_63 (lv_at hl 0 rfl) ?_
        refine va_put (D := D) (ci := 2) (v := .int (nI (nd f u v 512))) (ty := .int) (C := RL) (T := TL) (N := 5) hx hb hA9 inL tyL tyL_ok nmL hown hK hP hD hS 0 (wx_at (by omega) ((fr2 0 (by omega)).trans h0)) rfl 4 (by decide) (hA9 _ mfL_27) (fun _ h9 => h9) rfl (by decide +kernel) rfl rfl (Nat.le_of_ble_eq_true rfl) dL_different_65 (fun H locs hP hD hS => ?_)
        replace hP : va_P D CLS ((wx N ad cl).set 0 (ad 0, .inr (2, [.ref (ad 1), .ref (ad 2), .ref (ad 33), .int (nI rl), .int (nI (nd f u v 512))]))) H := hP
        replace hD : va_D A ((wx N ad cl).set 0 (ad 0, .inr (2, [.ref (ad 1), .ref (ad 2), .ref (ad 33), .int (nI rl), .int (nI (nd f u v 512))]))) := hD
        obtain ⟨ce1, hce1⟩ : ∃ z9, z9 = va_up cl 0 (.inr (2, [.ref (ad 1), .ref (ad 2), .ref (ad 33), .int (nI rl), .int (nI (nd f u v 512))])) := ⟨_, rfl⟩
        rw [wx_set (by omega), ← hce1] at hP hD
        have q8 : ce1 2 = .inr (1, [.ref (ad 3), .ref (ad 4), .ref (ad 5), .int (nI n)]) := by rw [hce1, va_up_ne _ _ (by omega)]; exact ((fr2 2 (by omega)).trans hT.1)
        have q9 : ce1 33 = .inl (cI, 512, .inl gr1) := by rw [hce1, va_up_ne _ _ (by omega)]; exact q1
        have q10 : ce1 0 = .inr (2, [.ref (ad 1), .ref (ad 2), .ref (ad 33), .int (nI rl), .int (nI (nd f u v 512))]) := by rw [hce1, va_up_self]
        have fr11 : ∀ j, j ≠ 33 → j ≠ 0 → ce1 j = ce j := fun j h0 h1 => by rw [hce1, va_up_ne _ _ h1]; exact fr2 j h0
        refine lv_iload hx hb dL_different_68 (lv_at hl 0 rfl) ?_
        refine W.widen (k := 1) (n := 6) (by decide) (by decide) ?_
        refine vx_ret ?_
        exact W.iret (v := (nI (nd f u v 512))) hx hb hr (fun t ht hW => ⟨⟨(nI (nd f u v 512)), ce1, rfl, ⟨(fun j g0 g1 => fr11 j g1 g0), u, v, huv, hv, rfl, rfl, rfl, q10, gr1, q9, j2.ext fl⟩, by rw [ht]; exact hP, va_K.moved hW.alike hK, hD⟩, hS.F ht⟩) hS.2.2 dL_different_70
      · skip
        have d2 := nleN c23
        refine lv_aload_n hx hb dL_different_26 rfl (lv_at hl 2 rfl) ?_
        refine va_get (D := D) (ci := 2) (v := .ref (ad 33)) (C := RL) (T := TL) (N := 5) hx hb hA9 inL hown hK hP 0 (wx_at (by omega) ((fr2 0 (by omega)).trans h0)) rfl 2 (by decide) (hA9 _ mfL_20) (fun _ h9 => h9) rfl dL_different_27 ?_
        refine lv_iload hx hb dL_different_30 (lv_at hl 0 rfl) ?_
        refine lv_aload_n hx hb dL_different_32 rfl (lv_at hl 2 rfl) ?_
        refine va_get (D := D) (ci := 2) (v := .ref (ad 2)) (C := RL) (T := TL) (N := 5) hx hb hA9 inL hown hK hP 0 (wx_at (by omega) ((fr2 0 (by omega)).trans h0)) rfl 1 (by decide) (hA9 _ mfL_16) (fun _ h9 => h9) rfl dL_different_33 ?_
        refine lv_iload_n hx hb dL_different_36 rfl (lv_at hl 3 rfl) ?_
        refine lv_iload_n hx hb dL_different_37 rfl (lv_at hl 4 rfl) ?_
        refine lv_iload_n hx hb dL_different_38 rfl (lv_at hl 1 rfl) ?_
        refine vp_callSi (va_runV (As := [.int (nI u), .int (nI v), .int (nI (lq f z u v))]) (rest := [.int (nI (nd f u v z)), .ref (ad 33)]) ⟨hx, hb, hml, hown, hA9⟩ (c_T_groupOf l D cI cO cJ N ad cl (by omega) os n hT9 f hW hf u v huv hv (lq f z u v) (by omega)) (cwV 3 hA9 (gV mlL_78 miT_groupOf msT_groupOf mn_T mkT_groupOf) rfl rfl rfl (by decide +kernel) ⟨Nat.le_of_ble_eq_true rfl, Nat.le_of_ble_eq_true rfl⟩) ⟨PR_bl, wx_recv hK hP (by omega) ((fr2 2 (by omega)).trans hT.1) rfl, PR_mk hK hP⟩ rfl rfl hl.1 rfl (lv_room (Nat.le_of_ble_eq_true rfl)) dL_different_39 ⟨Nat.le_of_ble_eq_true rfl, Nat.le_of_ble_eq_true rfl⟩).run (fun r12 hr12 => ?_)
        obtain ⟨w5, rfl, hkt, hw5⟩ := hr12
        have el := eq_le f w5 huv
        obtain ⟨kn1, kn2, kn3, kn4, kn5⟩ := kt_next huv hkt
        have ndl := nd_le f u v w5
        refine va_iast hx hb hK hP hD hS 33 0 (wx_at (by omega) q1) rfl (inN) dL_different_42 (fun H locs hP hD hS => ?_)
        rw [clN (a := (nd f u v z))] at hP hD
        obtain ⟨ce1, hce1⟩ : ∃ z9, z9 = va_up cl 33 (.inl (cI, 512, .inl (upd gr1 (nd f u v z) (nI (w5 * 4096 + eq f w5 u v))))) := ⟨_, rfl⟩
        rw [wx_set (by omega), ← hce1] at hP hD
        have q13 : ce1 0 = .inr (2, [.ref (ad 1), .ref (ad 2), .ref (ad 33), .int (nI rl), .int (nI gc)]) := by rw [hce1, va_up_ne _ _ (by omega)]; exact ((fr2 0 (by omega)).trans h0)
        have q14 : ce1 2 = .inr (1, [.ref (ad 3), .ref (ad 4), .ref (ad 5), .int (nI n)]) := by rw [hce1, va_up_ne _ _ (by omega)]; exact ((fr2 2 (by omega)).trans hT.1)
        have q15 : ce1 33 = .inl (cI, 512, .inl (upd gr1 (nd f u v z) (nI (w5 * 4096 + eq f w5 u v)))) := by rw [hce1, va_up_self]
        have fr16 : ∀ j, j ≠ 33 → ce1 j = ce j := fun j h0 => by rw [hce1, va_up_ne _ _ h0]; exact fr2 j h0
        refine lv_iload_n hx hb dL_different_43 rfl (lv_at hl 1 rfl) ?_
        refine lv_aload_n hx hb dL_different_44 rfl (lv_at hl 2 rfl) ?_
        refine va_get (D := D) (ci := 2) (v := .ref (ad 33)) (C := RL) (T := TL) (N := 5) hx hb hA9 inL hown hK hP 0 (wx_at (by omega) q13) rfl 2 (by decide) (hA9 _ mfL_20) (fun _ h9 => h9) rfl dL_different_45 ?_
        refine lv_iload hx hb dL_different_48 (lv_at hl 0 rfl) ?_
        refine va_iald hx hb hK hP 33 0 (wx_at (by omega) q15) rfl (inN) dL_different_50 ?_
        refine lv_topi (fun z17 ez17 => ?_)
        obtain rfl : z17 = nI (w5 * 4096 + eq f w5 u v) := by rw [ez17, clN]; exact pk_us
        refine vp_callSi (va_runS (As := [.int (nI (w5 * 4096 + eq f w5 u v))]) (rest := [.int (nI (lq f z u v))]) ⟨hx, hb, hml, hown, hA9⟩ (c_L_timesIn l (w5 * 4096 + eq f w5 u v) (by omega)) (va_cwS 1 hA9 (gS mlL_87 mtL_timesIn mn_L mkL_timesIn) rfl rfl rfl (by decide +kernel) ⟨Nat.le_of_ble_eq_true rfl, Nat.le_of_ble_eq_true rfl⟩) ⟨P0_bl, P0_mk⟩ rfl rfl hl.1 rfl (lv_room (Nat.le_of_ble_eq_true rfl)) dL_different_51 ⟨Nat.le_of_ble_eq_true rfl, Nat.le_of_ble_eq_true rfl⟩).run (fun r18 hr18 => ?_)
        obtain rfl : r18 = nI (eq f w5 u v) := hr18.trans (congrArg nI (by omega))
        refine lv_iadd hx hb dL_different_54 ?_
        refine lv_topi (fun z19 ez19 => ?_)
        obtain rfl : z19 = nI (lq f (w5 + 1) u v) := by rw [ez19]; rw [nI_add, lq_s f w5 huv, kn2]
        refine lv_istore_n (lv' := [(3, .int (nI (lq f (w5 + 1) u v))), (4, .int (nI (nd f u v z))), (0, .ref (ad 0)), (1, .int (nI u)), (2, .int (nI v))]) hx hb dL_different_55 rfl hl (by decide) rfl (fun ls hl => ?_)
        refine lv_iinc (v := nI (nd f u v (w5 + 1))) (lv' := [(4, .int (nI (nd f u v (w5 + 1)))), (3, .int (nI (lq f (w5 + 1) u v))), (0, .ref (ad 0)), (1, .int (nI u)), (2, .int (nI v))]) hx hb dL_different_56 hl (k := 1) rfl ((nI_1 _).trans (congrArg nI (by rw [nd_s1 kn3, kn5]))) (by decide) rfl (fun ls hl => ?_)
        refine lv_goto (tgt := 11) hx hb dL_different_59 (by decide) ?_
        exact ih _ (by omega) (ls := ls) (cl := ce1) (H := H) (locs := locs) (z := w5 + 1) (gr1 := upd gr1 (nd f u v z) (nI (w5 * 4096 + eq f w5 u v))) (hP := hP) (hD := hD) (hS := hS) (hl := lv_sub hl [0, 1, 2, 3, 4] rfl) (J := ⟨(fun j g0 => fr16 j g0), q15, ⟨by omega, j2.next kn4 kn5⟩⟩) (hk9 := rfl)

set_option maxHeartbeats 4000000 in
set_option maxRecDepth 100000 in
theorem c_L_most (l : Launch) (hlt : l.stackTraces = false) (D : va_G) (cI cO cJ : ClassId) (N : Nat) (ad : Nat → Nat) (ce : Nat → va_E) (sz : Nat) (hN : 34 ≤ N) (os : Nat → Nat → Nat) (n : Nat) (hT : TR cI cO ad ce os n) (rl gc : Nat) (h0 : ce 0 = .inr (2, [.ref (ad 1), .ref (ad 2), .ref (ad 33), .int (nI rl), .int (nI gc)])) (f : Nat → Nat) (hW : WM f n os) (hf : ∀ i, i < n → f i < 512) (a b : Int32) : vx_Met l yL_most (.code yL_most bL_most 9 (some .int) :: WA) ({ frames := 7, cells := 1, slots := 6, locals := 112 }) (PX D (TY cI cO cJ) N ad ce sz [.ref (ad 0), .int (a), .int (b)]) (va_Qi (fun (r : Int32) (ce1 : Nat → va_E) => ce1 = ce ∧ ∃ u v o, u ≤ v ∧ v ≤ n ∧ a = nI u ∧ b = nI v ∧ r = bI o ∧ MM f u v 512 o) (BW D (TY cI cO cJ) N ad (AW N ad sz)) (AW N ad sz)) (XK (fun E => E = eI ∧ ¬ PA a b n)) 1 6 (AW N ad sz) := by
  refine vx_ofW (cc := bL_most) (maxL := 9) (ret := (some .int)) (by decide) rfl ?_
  intro p e s m args below meth c s₁ B hml htab hv
  obtain ⟨rfl, hsz, hP, hK, hD0, hE⟩ := hv
  have hx := B.exec
  have hb := B.bytes
  have hr := B.returns
  have hA9 : ∀ w ∈ WA, w.before _ s = true := fun w h => atoms_spec (ws := .code yL_most bL_most 9 (some .int) :: WA) B.pre w (List.mem_cons_of_mem _ h)
  have hown : s.vm.findClass RL = some m.cls := findClass_of_methodNamed B.named
  have hlocks := B.notSynchronized
  subst hsz
  have hD := aw_D (sz := s.heap.size) hD0
  generalize hAe : AW N ad s.heap.size = A at hD hE ⊢
  have hA : ∀ q, s.heap.size ≤ q → A q := fun q h => by rw [← hAe]; exact Or.inr h
  clear hAe hD0
  obtain ⟨-, -, ⟨g39, s39⟩, ⟨g52, s52⟩, ⟨g92, s92⟩, ⟨g94, s94⟩, ⟨g70, s70⟩, ⟨g76, s76⟩, ⟨g90, s90⟩, -⟩ := id hE
  have hl := lv_entry ([.ref (ad 0), .int (a), .int (b)]) (n := 9) (Nat.le_of_ble_eq_true rfl)
  rw [lg_entry_eq]
  generalize (lg_sl ([.ref (ad 0), .int (a), .int (b)]) ++ List.replicate (9 - (lg_sl ([.ref (ad 0), .int (a), .int (b)])).length) Slot.unset).toArray = ls at hl ⊢
  have hl : lv_has ls 9 [(0, .ref (ad 0)), (1, .int (a)), (2, .int (b))] := hl
  refine st0 (A := A) (fun H locs hS hH => ?_)
  have hU : ∀ q : Nat, q < s.heap.size → H[q]? = s.heap[q]? := fun q _ => by rw [hH]
  rw [← hH] at hP
  clear hH
  have hn := hT.2.2.2
  refine lv_aload_n hx hb dL_most_0 rfl (lv_at hl 0 rfl) ?_
  refine lv_iload_n hx hb dL_most_1 rfl (lv_at hl 1 rfl) ?_
  refine lv_iload_n hx hb dL_most_2 rfl (lv_at hl 2 rfl) ?_
  refine chk (P0 := fun E => E = eI ∧ ¬ PA (a) (b) n) hlocks htab (vx_runV (As := [.int (a), .int (b)]) (rest := []) ⟨hx, hb, hml, hown, hA9⟩ (c_L_checkPart l hlt D cI cO cJ N ad ce H.size hN os n hT rl gc h0 (a) (b)) (cwV 2 hA9 (gV mlL_63 miL_checkPart msL_checkPart mn_L mkL_checkPart) rfl rfl rfl (by decide +kernel) ⟨Nat.le_of_ble_eq_true rfl, Nat.le_of_ble_eq_true rfl⟩) ⟨PX_bl, wx_recv hK hP (by omega) h0 rfl, PX_mk hK hP hD hE hS hA⟩ rfl rfl hl.1 rfl (lv_room (Nat.le_of_ble_eq_true rfl)) dL_most_3 ⟨Nat.le_of_ble_eq_true rfl, Nat.le_of_ble_eq_true rfl⟩) hS hP hD hA hU (fun E h => h) (by decide) (by decide) (fun H locs hq hP hS hU => ?_)
  obtain ⟨u, v, huv, hv, rfl, rfl⟩ := hq
  refine lv_iconst (v := bI none) hx hb dL_most_6 (by decide +kernel) ?_
  refine lv_istore_n (lv' := [(3, .int (bI none)), (0, .ref (ad 0)), (1, .int (nI u)), (2, .int (nI v))]) hx hb dL_most_7 rfl hl (by decide) rfl (fun ls hl => ?_)
  refine lv_iconst (v := nI (bT f u v none)) hx hb dL_most_8 (by rw [show bT f u v none = 0 from rfl]; decide +kernel) ?_
  refine lv_istore (lv' := [(4, .int (nI (bT f u v none))), (3, .int (bI none)), (0, .ref (ad 0)), (1, .int (nI u)), (2, .int (nI v))]) hx hb dL_most_9 hl (by decide) rfl (fun ls hl => ?_)
  refine lv_iconst (v := nI (lq f 0 u v)) hx hb dL_most_11 (by rw [lq_0 f huv]; decide +kernel) ?_
  refine lv_istore (lv' := [(5, .int (nI (lq f 0 u v))), (4, .int (nI (bT f u v none))), (3, .int (bI none)), (0, .ref (ad 0)), (1, .int (nI u)), (2, .int (nI v))]) hx hb dL_most_12 hl (by decide) rfl (fun ls hl => ?_)
  refine lv_iconst (v := nI (nd f u v 0)) hx hb dL_most_14 (by rw [show nd f u v 0 = 0 from rfl]; decide +kernel) ?_
  refine lv_istore (lv' := [(6, .int (nI (nd f u v 0))), (5, .int (nI (lq f 0 u v))), (4, .int (nI (bT f u v none))), (3, .int (bI none)), (0, .ref (ad 0)), (1, .int (nI u)), (2, .int (nI v))]) hx hb dL_most_15 hl (by decide) rfl (fun ls hl => ?_)
  obtain ⟨z, hz0⟩ : ∃ z : Nat, (0) = z := ⟨_, rfl⟩
  obtain ⟨o, ho0⟩ : ∃ z : Option Nat, (none) = z := ⟨_, rfl⟩
  replace hl : lv_has ls 9 [(6, .int (nI (nd f u v z))), (5, .int (nI (lq f z u v))), (4, .int (nI (bT f u v o))), (3, .int (bI o)), (0, .ref (ad 0)), (1, .int (nI u)), (2, .int (nI v))] := by subst hz0 ho0; exact lv_sub hl [0, 1, 2, 3, 4, 5, 6] rfl
  have J : z ≤ 512 ∧ MM f u v z o := by subst hz0 ho0; exact ⟨by omega, MM.z⟩
  clear hz0
  clear ho0
  obtain ⟨k9, hk9⟩ : ∃ z9 : Nat, z9 = 512 - z := ⟨_, rfl⟩
  induction k9 using Nat.strongRecOn generalizing z o ls with
  | ind k9 ih =>
    obtain ⟨j1, j2⟩ := J
    have ndz := nd_le f u v z
    have lz := lq_le f z huv
    have btl := bT_le f o huv
    refine lv_iload hx hb dL_most_17 (lv_at hl 0 rfl) ?_
    refine lv_sipush (v := nI 512) hx hb dL_most_19 (by decide +kernel) ?_
    refine lv_icmp_ge (tgt := 83) hx hb dL_most_22 (by decide) (fun c22 => ?_) (fun c22 => ?_)
    · skip
      have d1 := leN c22
      have hz9 : z = 512 := by omega
      have fl : ∀ t, z ≤ t → t < 512 → eq f t u v = 0 := fun t q1 q2 => absurd q2 (by omega)
      refine lv_iload_n hx hb dL_most_83 rfl (lv_at hl 3 rfl) ?_
      refine W.widen (k := 1) (n := 6) (by decide) (by decide) ?_
      refine vx_ret ?_
      exact W.iret (v := (bI o)) hx hb hr (fun t ht hW => ⟨⟨(bI o), ce, rfl, ⟨rfl, u, v, o, huv, hv, rfl, rfl, rfl, j2.ext j1 fl⟩, by rw [ht]; exact hP, va_K.moved hW.alike hK, hD⟩, hS.F ht⟩) hS.2.2 dL_most_84
    · skip
      have d1 := nleN c22
      refine lv_iload hx hb dL_most_25 (lv_at hl 1 rfl) ?_
      refine lv_iload_n hx hb dL_most_27 rfl (lv_at hl 6 rfl) ?_
      refine lv_iload_n hx hb dL_most_28 rfl (lv_at hl 5 rfl) ?_
      refine lv_isub hx hb dL_most_29 ?_
      refine lv_topi (fun z1 ez1 => ?_)
      obtain rfl : z1 = nI (v - u) := by rw [ez1]; exact pk_sub huv
      refine lv_icmp_ge (tgt := 83) hx hb dL_most_30 (by decide) (fun c30 => ?_) (fun c30 => ?_)
      · skip
        have d2 := leN c30
        have fl : ∀ t, z ≤ t → t < 512 → eq f t u v = 0 := lq_flat huv (by rw [lq_512 hf huv hv]; exact d2)
        refine lv_iload_n hx hb dL_most_83 rfl (lv_at hl 3 rfl) ?_
        refine W.widen (k := 1) (n := 6) (by decide) (by decide) ?_
        refine vx_ret ?_
        exact W.iret (v := (bI o)) hx hb hr (fun t ht hW => ⟨⟨(bI o), ce, rfl, ⟨rfl, u, v, o, huv, hv, rfl, rfl, rfl, j2.ext j1 fl⟩, by rw [ht]; exact hP, va_K.moved hW.alike hK, hD⟩, hS.F ht⟩) hS.2.2 dL_most_84
      · skip
        have d2 := nleN c30
        refine lv_aload_n hx hb dL_most_33 rfl (lv_at hl 4 rfl) ?_
        refine va_get (D := D) (ci := 2) (v := .ref (ad 2)) (C := RL) (T := TL) (N := 5) hx hb hA9 inL hown hK hP 0 (wx_at (by omega) h0) rfl 1 (by decide) (hA9 _ mfL_16) (fun _ h9 => h9) rfl dL_most_34 ?_
        refine lv_iload_n hx hb dL_most_37 rfl (lv_at hl 5 rfl) ?_
        refine lv_iload_n hx hb dL_most_38 rfl (lv_at hl 6 rfl) ?_
        refine lv_iload hx hb dL_most_39 (lv_at hl 1 rfl) ?_
        refine vp_callSi (va_runV (As := [.int (nI u), .int (nI v), .int (nI (lq f z u v))]) (rest := []) ⟨hx, hb, hml, hown, hA9⟩ (c_T_groupOf l D cI cO cJ N ad ce (by omega) os n hT f hW hf u v huv hv (lq f z u v) (by omega)) (cwV 3 hA9 (gV mlL_78 miT_groupOf msT_groupOf mn_T mkT_groupOf) rfl rfl rfl (by decide +kernel) ⟨Nat.le_of_ble_eq_true rfl, Nat.le_of_ble_eq_true rfl⟩) ⟨PR_bl, wx_recv hK hP (by omega) hT.1 rfl, PR_mk hK hP⟩ rfl rfl hl.1 rfl (lv_room (Nat.le_of_ble_eq_true rfl)) dL_most_41 ⟨Nat.le_of_ble_eq_true rfl, Nat.le_of_ble_eq_true rfl⟩).run (fun r2 hr2 => ?_)
        obtain ⟨w5, rfl, hkt, hw5⟩ := hr2
        have el := eq_le f w5 huv
        obtain ⟨kn1, kn2, kn3, kn4, kn5⟩ := kt_next huv hkt
        have ndl := nd_le f u v w5
        have jy := j2.ext kn1 kn4
        refine lv_istore (lv' := [(7, .int (nI (w5 * 4096 + eq f w5 u v))), (6, .int (nI (nd f u v z))), (5, .int (nI (lq f z u v))), (4, .int (nI (bT f u v o))), (3, .int (bI o)), (0, .ref (ad 0)), (1, .int (nI u)), (2, .int (nI v))]) hx hb dL_most_44 hl (by decide) rfl (fun ls hl => ?_)
        refine lv_iload hx hb dL_most_46 (lv_at hl 0 rfl) ?_
        refine vp_callSi (va_runS (As := [.int (nI (w5 * 4096 + eq f w5 u v))]) (rest := []) ⟨hx, hb, hml, hown, hA9⟩ (c_L_timesIn l (w5 * 4096 + eq f w5 u v) (by omega)) (va_cwS 1 hA9 (gS mlL_87 mtL_timesIn mn_L mkL_timesIn) rfl rfl rfl (by decide +kernel) ⟨Nat.le_of_ble_eq_true rfl, Nat.le_of_ble_eq_true rfl⟩) ⟨P0_bl, P0_mk⟩ rfl rfl hl.1 rfl (lv_room (Nat.le_of_ble_eq_true rfl)) dL_most_48 ⟨Nat.le_of_ble_eq_true rfl, Nat.le_of_ble_eq_true rfl⟩).run (fun r3 hr3 => ?_)
        obtain rfl : r3 = nI (eq f w5 u v) := hr3.trans (congrArg nI (by omega))
        refine lv_istore (lv' := [(8, .int (nI (eq f w5 u v))), (7, .int (nI (w5 * 4096 + eq f w5 u v))), (6, .int (nI (nd f u v z))), (5, .int (nI (lq f z u v))), (4, .int (nI (bT f u v o))), (3, .int (bI o)), (0, .ref (ad 0)), (1, .int (nI u)), (2, .int (nI v))]) hx hb dL_most_51 hl (by decide) rfl (fun ls hl => ?_)
        refine lv_iload hx hb dL_most_53 (lv_at hl 0 rfl) ?_
        refine lv_iload hx hb dL_most_55 (lv_at hl 4 rfl) ?_
        refine lv_icmp_le (tgt := 70) hx hb dL_most_57 (by decide) (fun c57 => ?_) (fun c57 => ?_)
        · skip
          have d3 := leN c57
          have jn : MM f u v (w5 + 1) o := jy.skip (Or.inr (by
            cases o with
            | none => exact absurd d3 (by show ¬ eq f w5 u v ≤ 0; omega)
            | some b => exact ⟨b, rfl, d3⟩))
          refine lv_iload hx hb dL_most_70 (lv_at hl 3 rfl) ?_
          refine lv_iload hx hb dL_most_72 (lv_at hl 0 rfl) ?_
          refine lv_iadd hx hb dL_most_74 ?_
          refine lv_topi (fun z4 ez4 => ?_)
          obtain rfl : z4 = nI (lq f (w5 + 1) u v) := by rw [ez4]; rw [nI_add, lq_s f w5 huv, kn2]
          refine lv_istore (lv' := [(5, .int (nI (lq f (w5 + 1) u v))), (8, .int (nI (eq f w5 u v))), (7, .int (nI (w5 * 4096 + eq f w5 u v))), (6, .int (nI (nd f u v z))), (4, .int (nI (bT f u v o))), (3, .int (bI o)), (0, .ref (ad 0)), (1, .int (nI u)), (2, .int (nI v))]) hx hb dL_most_75 hl (by decide) rfl (fun ls hl => ?_)
          refine lv_iinc (v := nI (nd f u v (w5 + 1))) (lv' := [(6, .int (nI (nd f u v (w5 + 1)))), (5, .int (nI (lq f (w5 + 1) u v))), (8, .int (nI (eq f w5 u v))), (7, .int (nI (w5 * 4096 + eq f w5 u v))), (4, .int (nI (bT f u v o))), (3, .int (bI o)), (0, .ref (ad 0)), (1, .int (nI u)), (2, .int (nI v))]) hx hb dL_most_77 hl (k := 3) rfl ((nI_1 _).trans (congrArg nI (by rw [nd_s1 kn3, kn5]))) (by decide) rfl (fun ls hl => ?_)
          refine lv_goto (tgt := 17) hx hb dL_most_80 (by decide) ?_
          exact ih _ (by omega) (ls := ls) (z := w5 + 1) (o := o) (lv_sub hl [0, 1, 4, 5, 6, 7, 8] rfl) (⟨by omega, jn⟩) rfl
        · skip
          have d3 := nleN c57
          have jn : MM f u v (w5 + 1) (some w5) := jy.take kn3 (fun b hb9 => by subst hb9; exact d3)
          refine lv_iload hx hb dL_most_60 (lv_at hl 1 rfl) ?_
          refine vp_callSi (va_runS (As := [.int (nI (w5 * 4096 + eq f w5 u v))]) (rest := []) ⟨hx, hb, hml, hown, hA9⟩ (c_L_numberOf l (w5 * 4096 + eq f w5 u v) (by omega)) (va_cwS 1 hA9 (gS mlL_81 mtL_numberOf mn_L mkL_numberOf) rfl rfl rfl (by decide +kernel) ⟨Nat.le_of_ble_eq_true rfl, Nat.le_of_ble_eq_true rfl⟩) ⟨P0_bl, P0_mk⟩ rfl rfl hl.1 rfl (lv_room (Nat.le_of_ble_eq_true rfl)) dL_most_62 ⟨Nat.le_of_ble_eq_true rfl, Nat.le_of_ble_eq_true rfl⟩).run (fun r5 hr5 => ?_)
          obtain rfl : r5 = bI (some w5) := hr5.trans (congrArg nI (by omega))
          refine lv_istore_n (lv' := [(3, .int (bI (some w5))), (8, .int (nI (eq f w5 u v))), (7, .int (nI (w5 * 4096 + eq f w5 u v))), (6, .int (nI (nd f u v z))), (5, .int (nI (lq f z u v))), (4, .int (nI (bT f u v o))), (0, .ref (ad 0)), (1, .int (nI u)), (2, .int (nI v))]) hx hb dL_most_65 rfl hl (by decide) rfl (fun ls hl => ?_)
          refine lv_iload hx hb dL_most_66 (lv_at hl 1 rfl) ?_
          refine lv_istore (lv' := [(4, .int (nI (eq f w5 u v))), (3, .int (bI (some w5))), (8, .int (nI (eq f w5 u v))), (7, .int (nI (w5 * 4096 + eq f w5 u v))), (6, .int (nI (nd f u v z))), (5, .int (nI (lq f z u v))), (0, .ref (ad 0)), (1, .int (nI u)), (2, .int (nI v))]) hx hb dL_most_68 hl (by decide) rfl (fun ls hl => ?_)
          refine lv_iload hx hb dL_most_70 (lv_at hl 5 rfl) ?_
          refine lv_iload hx hb dL_most_72 (lv_at hl 2 rfl) ?_
          refine lv_iadd hx hb dL_most_74 ?_
          refine lv_topi (fun z6 ez6 => ?_)
          obtain rfl : z6 = nI (lq f (w5 + 1) u v) := by rw [ez6]; rw [nI_add, lq_s f w5 huv, kn2]
          refine lv_istore (lv' := [(5, .int (nI (lq f (w5 + 1) u v))), (4, .int (nI (eq f w5 u v))), (3, .int (bI (some w5))), (8, .int (nI (eq f w5 u v))), (7, .int (nI (w5 * 4096 + eq f w5 u v))), (6, .int (nI (nd f u v z))), (0, .ref (ad 0)), (1, .int (nI u)), (2, .int (nI v))]) hx hb dL_most_75 hl (by decide) rfl (fun ls hl => ?_)
          refine lv_iinc (v := nI (nd f u v (w5 + 1))) (lv' := [(6, .int (nI (nd f u v (w5 + 1)))), (5, .int (nI (lq f (w5 + 1) u v))), (4, .int (nI (eq f w5 u v))), (3, .int (bI (some w5))), (8, .int (nI (eq f w5 u v))), (7, .int (nI (w5 * 4096 + eq f w5 u v))), (0, .ref (ad 0)), (1, .int (nI u)), (2, .int (nI v))]) hx hb dL_most_77 hl (k := 5) rfl ((nI_1 _).trans (congrArg nI (by rw [nd_s1 kn3, kn5]))) (by decide) rfl (fun ls hl => ?_)
          refine lv_goto (tgt := 17) hx hb dL_most_80 (by decide) ?_
          exact ih _ (by omega) (ls := ls) (z := w5 + 1) (o := some w5) (lv_sub hl [0, 1, 2, 3, 6, 7, 8] rfl) (⟨by omega, jn⟩) rfl
end
section
/-! constructors -/
def PN (D : va_G) (ty : List (ClassId × FieldType)) (N : Nat) (ad : Nat → Nat) (ce : Nat → va_E) (sz : Nat) (av : List Value) : Array Value → State → Prop := va_Pc av (fun U => U.heap.size = sz ∧ va_P D CLS (wx N ad ce) U.heap ∧ va_K D CLS ty U ∧ va_D (fun _ => True) (wx N ad ce) ∧ va_AO RV U)
theorem PN_bl {D : va_G} {ty : List (ClassId × FieldType)} {N : Nat} {ad : Nat → Nat} {ce : Nat → va_E} {sz : Nat} {av : List Value} : FrameBlind (PN D ty N ad ce sz av) := fun a U g mk q => ⟨q.1, q.2.1, q.2.2.1, va_K.moved (u := U) (U := U.calling g mk a) (Vm.Alike.refl U.vm) q.2.2.2.1, q.2.2.2.2.1, va_AO.moved (u := U) (U := U.calling g mk a) (Vm.Alike.refl U.vm) q.2.2.2.2.2⟩
theorem PN_mk {D : va_G} {ty : List (ClassId × FieldType)} {N : Nat} {ad : Nat → Nat} {ce : Nat → va_E} {av : List Value} {s : State} {H : Heap} {A : Nat → Prop} (hK : va_K D CLS ty s) (hP : va_P D CLS (wx N ad ce) H) (hD : va_D A (wx N ad ce)) (hO : va_AO RV s) : ∀ U : State, U.heap = H → s.WarmedH U.vm → PN D ty N ad ce H.size av av.toArray U := fun U hU hW => ⟨rfl, by rw [hU], by rw [hU]; exact hP, va_K.moved hW.alike hK, hD.weaken (fun _ _ _ _ => trivial), va_AO.moved hW.alike hO⟩
/-- a level that was made at cell k -/
def LZ (cI : ClassId) (ad : Nat → Nat) (ce : Nat → va_E) (k : Nat) : Prop := ce k = .inr (0, [.ref (ad (k + 1)), .ref (ad (k + 2)), .int (nI 0), .int (nI 0)]) ∧ ce (k + 1) = .inl (cI, 126, .inl (fun _ => 0)) ∧ ce (k + 2) = .inl (cI, 126, .inl (fun _ => 0))
theorem LZ.cg {cI : ClassId} {ad ad1 : Nat → Nat} {ce ce1 : Nat → va_E} {k : Nat} (h : LZ cI ad ce k) (ha : ∀ j, k ≤ j → j < k + 3 → ad1 j = ad j) (hc : ∀ j, k ≤ j → j < k + 3 → ce1 j = ce j) : LZ cI ad1 ce1 k := ⟨by rw [hc k (by omega) (by omega), ha (k + 1) (by omega) (by omega), ha (k + 2) (by omega) (by omega)]; exact h.1, (hc _ (by omega) (by omega)).trans h.2.1, (hc _ (by omega) (by omega)).trans h.2.2⟩
/-- the tree that was made at cell 2 -/
def TZ (cI cO : ClassId) (ad : Nat → Nat) (ce : Nat → va_E) : Prop := ce 2 = .inr (1, [.ref (ad 3), .ref (ad 4), .ref (ad 5), .int (nI 0)]) ∧ (∃ lv : Nat → Option Nat, ce 3 = .inl (cO, 9, .inr (.inr (.inr (.inr lv)))) ∧ ∀ d, d < 9 → lv d = some (ad (6 + 3 * d))) ∧ (∀ d, d < 9 → LZ cI ad ce (6 + 3 * d)) ∧ ce 4 = .inl (cI, 4000, .inl (fun _ => 0)) ∧ ce 5 = .inl (cI, 4000, .inl (fun _ => 0))
theorem TZ.cg {cI cO : ClassId} {ad ad1 : Nat → Nat} {ce ce1 : Nat → va_E} (h : TZ cI cO ad ce) (ha : ∀ j, 2 ≤ j → j < 33 → ad1 j = ad j) (hc : ∀ j, 2 ≤ j → j < 33 → ce1 j = ce j) : TZ cI cO ad1 ce1 := by
  obtain ⟨h1, ⟨lv, h2, h3⟩, h4, h5, h6⟩ := h
  refine ⟨by rw [hc 2 (by omega) (by omega), ha 3 (by omega) (by omega), ha 4 (by omega) (by omega), ha 5 (by omega) (by omega)]; exact h1, ⟨lv, (hc 3 (by omega) (by omega)).trans h2, fun d hd => by rw [ha _ (by omega) (by omega)]; exact h3 d hd⟩, fun d hd => (h4 d hd).cg (fun j _ _ => ha j (by omega) (by omega)) (fun j _ _ => hc j (by omega) (by omega)), (hc 4 (by omega) (by omega)).trans h5, (hc 5 (by omega) (by omega)).trans h6⟩

set_option maxHeartbeats 4000000 in
set_option maxRecDepth 100000 in
theorem c_V_init (l : Launch) (D : va_G) (cI cO cJ : ClassId) (k : Nat) (ad : Nat → Nat) (ce : Nat → va_E) (sz : Nat) (h0 : ce k = .inr (0, [.null, .null, .int 0, .int 0])) : Met l yV_init (.code yV_init bV_init 1 none :: WA) ({ frames := 1, cells := 2, slots := 252, locals := 40 }) (PM D (TY cI cO cJ) (k + 1) ad ce sz [.ref (ad k)]) (va_Qv (fun u : (Nat → Nat) × (Nat → va_E) => (∀ j, j < k + 1 → u.1 j = ad j) ∧ (∀ j, j < k → u.2 j = ce j) ∧ LZ cI u.1 u.2 k) (BG D (TY cI cO cJ) (k + 3) (AW (k + 1) ad sz)) (AW (k + 1) ad sz)) 2 252 (AW (k + 1) ad sz) := by
  refine Met.ofW (cc := bV_init) (maxL := 1) (ret := none) (by decide) rfl ?_
  intro p e s m args below meth c s₁ B hml hv
  obtain ⟨rfl, hsz, hP, hK, hD0⟩ := hv
  have hx := B.exec
  have hb := B.bytes
  have hr := B.returns
  have hA9 : ∀ w ∈ WA, w.before _ s = true := fun w h => atoms_spec (ws := .code yV_init bV_init 1 none :: WA) B.pre w (List.mem_cons_of_mem _ h)
  have hown : s.vm.findClass RV = some m.cls := findClass_of_methodNamed B.named
  have hlocks := B.notSynchronized
  have hin : meth.name = "<init>" := (name_of_methodNamed B.named B.method).1
  subst hsz
  have hD := aw_D (sz := s.heap.size) hD0
  generalize hAe : AW (k + 1) ad s.heap.size = A at hD ⊢
  have hA : ∀ q, s.heap.size ≤ q → A q := fun q h => by rw [← hAe]; exact Or.inr h
  clear hAe hD0
  have hl := lv_entry ([.ref (ad k)]) (n := 1) (Nat.le_of_ble_eq_true rfl)
  rw [lg_entry_eq]
  generalize (lg_sl ([.ref (ad k)]) ++ List.replicate (1 - (lg_sl ([.ref (ad k)])).length) Slot.unset).toArray = ls at hl ⊢
  have hl : lv_has ls 1 [(0, .ref (ad k))] := hl
  refine st0 (A := A) (fun H locs hS hH => ?_)
  rw [← hH] at hP
  clear hH
  refine lv_aload_n hx hb dV_init_0 rfl (lv_at hl 0 rfl) ?_
  refine W.objInit hx hb hown (hA9 _ mlV_3) (hA9 _ miobjectInit) (hA9 _ mkobj) rfl (by rw [hml]; exact hl.1) rfl dV_init_1 (Nat.le_of_ble_eq_true rfl) (Nat.le_of_ble_eq_true rfl) ?_
  refine W.eq (g2 := F0 m 4 ls []) rfl ?_
  refine lv_aload_n hx hb dV_init_4 rfl (lv_at hl 0 rfl) ?_
  refine lv_bipush (v := nI 126) hx hb dV_init_5 (by decide +kernel) ?_
  refine ix_newI (n := 126) hx hb (hA9 _ ma_int) hK hP hD hS hA (by omega) (Nat.le_of_ble_eq_true rfl) (Nat.le_of_ble_eq_true rfl) dV_init_7 (fun q H hP hD hS => ?_)
  obtain ⟨ad1, hd1⟩ : ∃ z9, z9 = va_up ad (k + 1) q := ⟨_, rfl⟩
  obtain ⟨ce1, hc1⟩ : ∃ z9, z9 = va_up ce (k + 1) (.inl (cI, 126, .inl (fun _ => 0))) := ⟨_, rfl⟩
  rw [← hd1, ← hc1] at hP hD
  have eq1 : q = ad1 (k + 1) := by rw [hd1, va_up_self]
  have ed1 : ∀ j, j < k + 1 → ad j = ad1 j := fun j h => by rw [hd1, va_up_ne _ _ (by omega)]
  have ec1 : ∀ j, j < k + 1 → ce1 j = ce j := fun j h => by rw [hc1, va_up_ne _ _ (by omega)]
  have fa1 : ∀ j, j < k + 1 → ad1 j = ad j := fun j h => (ed1 j (by omega)).symm.trans ((fun _ _ => rfl) j h)
  have fc1 : ∀ j, j < k → ce1 j = ce j := fun j h => (ec1 j (by omega)).trans ((fun _ _ => rfl) j h)
  have q1_k : ce1 k = .inr (0, [.null, .null, .int 0, .int 0]) := by rw [ec1 k (by omega), h0]
  have qn1 : ce1 (k + 1) = .inl (cI, 126, .inl (fun _ => 0)) := by rw [hc1, va_up_self]
  replace hl : lv_has ls 1 [(0, .ref (ad1 k))] := by rw [← ed1 k (by omega)]; exact hl
  refine W.eq (g2 := F0 m 9 ls [.ref (ad1 (k + 1)), .ref (ad1 k)]) (by rw [eq1, ed1 k (by omega)]) ?_
  clear hd1 hc1
  refine va_putF (D := D) (ci := 0) (v := .ref (ad1 (k + 1))) (ty := .array .int) (C := RV) (T := TV) (N := 4) hx hb hA9 inV tyV tyV_ok nmV hown hK hP hD hS k (wx_at (by omega) q1_k) rfl 0 (by decide) (hA9 _ mfV_9) (fun _ h9 => h9) rfl hin rfl (by decide +kernel) rfl rfl (Nat.le_of_ble_eq_true rfl) dV_init_9 (fun H locs hP hD hS => ?_)
  replace hP : va_P D CLS ((wx (k + 2) ad1 ce1).set k (ad1 k, .inr (0, [.ref (ad1 (k + 1)), .null, .int 0, .int 0]))) H := hP
  replace hD : va_D A ((wx (k + 2) ad1 ce1).set k (ad1 k, .inr (0, [.ref (ad1 (k + 1)), .null, .int 0, .int 0]))) := hD
  obtain ⟨ce2, hc2⟩ : ∃ z9, z9 = va_up ce1 k (.inr (0, [.ref (ad1 (k + 1)), .null, .int 0, .int 0])) := ⟨_, rfl⟩
  rw [wx_set (by omega), ← hc2] at hP hD
  have fc2 : ∀ j, j < k → ce2 j = ce j := fun j h => (by rw [hc2, va_up_ne _ _ (by omega)] : ce2 j = ce1 j).trans (fc1 j h)
  have q2_k___1 : ce2 (k + 1) = .inl (cI, 126, .inl (fun _ => 0)) := by rw [hc2, va_up_ne _ _ (by omega), qn1]
  have qw2 : ce2 k = .inr (0, [.ref (ad1 (k + 1)), .null, .int 0, .int 0]) := by rw [hc2, va_up_self]
  have ec2 : ∀ j, j ≠ k → ce2 j = ce1 j := fun j h => by rw [hc2, va_up_ne _ _ h]
  clear hc2
  refine lv_aload_n hx hb dV_init_12 rfl (lv_at hl 0 rfl) ?_
  refine lv_bipush (v := nI 126) hx hb dV_init_13 (by decide +kernel) ?_
  refine ix_newI (n := 126) hx hb (hA9 _ ma_int) hK hP hD hS hA (by omega) (Nat.le_of_ble_eq_true rfl) (Nat.le_of_ble_eq_true rfl) dV_init_15 (fun q H hP hD hS => ?_)
  obtain ⟨ad3, hd3⟩ : ∃ z9, z9 = va_up ad1 (k + 2) q := ⟨_, rfl⟩
  obtain ⟨ce3, hc3⟩ : ∃ z9, z9 = va_up ce2 (k + 2) (.inl (cI, 126, .inl (fun _ => 0))) := ⟨_, rfl⟩
  rw [← hd3, ← hc3] at hP hD
  have eq3 : q = ad3 (k + 2) := by rw [hd3, va_up_self]
  have ed3 : ∀ j, j < k + 2 → ad1 j = ad3 j := fun j h => by rw [hd3, va_up_ne _ _ (by omega)]
  have ec3 : ∀ j, j < k + 2 → ce3 j = ce2 j := fun j h => by rw [hc3, va_up_ne _ _ (by omega)]
  have fa3 : ∀ j, j < k + 1 → ad3 j = ad j := fun j h => (ed3 j (by omega)).symm.trans (fa1 j h)
  have fc3 : ∀ j, j < k → ce3 j = ce j := fun j h => (ec3 j (by omega)).trans (fc2 j h)
  have q3_k : ce3 k = .inr (0, [.ref (ad3 (k + 1)), .null, .int 0, .int 0]) := by rw [ec3 k (by omega), qw2, ed3 (k + 1) (by omega)]
  have q3_k___1 : ce3 (k + 1) = .inl (cI, 126, .inl (fun _ => 0)) := by rw [ec3 (k + 1) (by omega), q2_k___1]
  have qn3 : ce3 (k + 2) = .inl (cI, 126, .inl (fun _ => 0)) := by rw [hc3, va_up_self]
  replace hl : lv_has ls 1 [(0, .ref (ad3 k))] := by rw [← ed3 k (by omega)]; exact hl
  refine W.eq (g2 := F0 m 17 ls [.ref (ad3 (k + 2)), .ref (ad3 k)]) (by rw [eq3, ed3 k (by omega)]) ?_
  clear hd3 hc3
  refine va_putF (D := D) (ci := 0) (v := .ref (ad3 (k + 2))) (ty := .array .int) (C := RV) (T := TV) (N := 4) hx hb hA9 inV tyV tyV_ok nmV hown hK hP hD hS k (wx_at (by omega) q3_k) rfl 1 (by decide) (hA9 _ mfV_15) (fun _ h9 => h9) rfl hin rfl (by decide +kernel) rfl rfl (Nat.le_of_ble_eq_true rfl) dV_init_17 (fun H locs hP hD hS => ?_)
  replace hP : va_P D CLS ((wx (k + 3) ad3 ce3).set k (ad3 k, .inr (0, [.ref (ad3 (k + 1)), .ref (ad3 (k + 2)), .int 0, .int 0]))) H := hP
  replace hD : va_D A ((wx (k + 3) ad3 ce3).set k (ad3 k, .inr (0, [.ref (ad3 (k + 1)), .ref (ad3 (k + 2)), .int 0, .int 0]))) := hD
  obtain ⟨ce4, hc4⟩ : ∃ z9, z9 = va_up ce3 k (.inr (0, [.ref (ad3 (k + 1)), .ref (ad3 (k + 2)), .int 0, .int 0])) := ⟨_, rfl⟩
  rw [wx_set (by omega), ← hc4] at hP hD
  have fc4 : ∀ j, j < k → ce4 j = ce j := fun j h => (by rw [hc4, va_up_ne _ _ (by omega)] : ce4 j = ce3 j).trans (fc3 j h)
  have q4_k___1 : ce4 (k + 1) = .inl (cI, 126, .inl (fun _ => 0)) := by rw [hc4, va_up_ne _ _ (by omega), q3_k___1]
  have q4_k___2 : ce4 (k + 2) = .inl (cI, 126, .inl (fun _ => 0)) := by rw [hc4, va_up_ne _ _ (by omega), qn3]
  have qw4 : ce4 k = .inr (0, [.ref (ad3 (k + 1)), .ref (ad3 (k + 2)), .int 0, .int 0]) := by rw [hc4, va_up_self]
  have ec4 : ∀ j, j ≠ k → ce4 j = ce3 j := fun j h => by rw [hc4, va_up_ne _ _ h]
  clear hc4
  refine lv_aload_n hx hb dV_init_20 rfl (lv_at hl 0 rfl) ?_
  refine lv_iconst (v := nI 0) hx hb dV_init_21 (by decide +kernel) ?_
  refine va_put (D := D) (ci := 0) (v := .int (nI 0)) (ty := .int) (C := RV) (T := TV) (N := 4) hx hb hA9 inV tyV tyV_ok nmV hown hK hP hD hS k (wx_at (by omega) qw4) rfl 2 (by decide) (hA9 _ mfV_18) (fun _ h9 => h9) rfl (by decide +kernel) rfl rfl (Nat.le_of_ble_eq_true rfl) dV_init_22 (fun H locs hP hD hS => ?_)
  replace hP : va_P D CLS ((wx (k + 3) ad3 ce4).set k (ad3 k, .inr (0, [.ref (ad3 (k + 1)), .ref (ad3 (k + 2)), .int (nI 0), .int 0]))) H := hP
  replace hD : va_D A ((wx (k + 3) ad3 ce4).set k (ad3 k, .inr (0, [.ref (ad3 (k + 1)), .ref (ad3 (k + 2)), .int (nI 0), .int 0]))) := hD
  obtain ⟨ce5, hc5⟩ : ∃ z9, z9 = va_up ce4 k (.inr (0, [.ref (ad3 (k + 1)), .ref (ad3 (k + 2)), .int (nI 0), .int 0])) := ⟨_, rfl⟩
  rw [wx_set (by omega), ← hc5] at hP hD
  have fc5 : ∀ j, j < k → ce5 j = ce j := fun j h => (by rw [hc5, va_up_ne _ _ (by omega)] : ce5 j = ce4 j).trans (fc4 j h)
  have q5_k___1 : ce5 (k + 1) = .inl (cI, 126, .inl (fun _ => 0)) := by rw [hc5, va_up_ne _ _ (by omega), q4_k___1]
  have q5_k___2 : ce5 (k + 2) = .inl (cI, 126, .inl (fun _ => 0)) := by rw [hc5, va_up_ne _ _ (by omega), q4_k___2]
  have qw5 : ce5 k = .inr (0, [.ref (ad3 (k + 1)), .ref (ad3 (k + 2)), .int (nI 0), .int 0]) := by rw [hc5, va_up_self]
  have ec5 : ∀ j, j ≠ k → ce5 j = ce4 j := fun j h => by rw [hc5, va_up_ne _ _ h]
  clear hc5
  refine lv_aload_n hx hb dV_init_25 rfl (lv_at hl 0 rfl) ?_
  refine lv_iconst (v := nI 0) hx hb dV_init_26 (by decide +kernel) ?_
  refine va_put (D := D) (ci := 0) (v := .int (nI 0)) (ty := .int) (C := RV) (T := TV) (N := 4) hx hb hA9 inV tyV tyV_ok nmV hown hK hP hD hS k (wx_at (by omega) qw5) rfl 3 (by decide) (hA9 _ mfV_22) (fun _ h9 => h9) rfl (by decide +kernel) rfl rfl (Nat.le_of_ble_eq_true rfl) dV_init_27 (fun H locs hP hD hS => ?_)
  replace hP : va_P D CLS ((wx (k + 3) ad3 ce5).set k (ad3 k, .inr (0, [.ref (ad3 (k + 1)), .ref (ad3 (k + 2)), .int (nI 0), .int (nI 0)]))) H := hP
  replace hD : va_D A ((wx (k + 3) ad3 ce5).set k (ad3 k, .inr (0, [.ref (ad3 (k + 1)), .ref (ad3 (k + 2)), .int (nI 0), .int (nI 0)]))) := hD
  obtain ⟨ce6, hc6⟩ : ∃ z9, z9 = va_up ce5 k (.inr (0, [.ref (ad3 (k + 1)), .ref (ad3 (k + 2)), .int (nI 0), .int (nI 0)])) := ⟨_, rfl⟩
  rw [wx_set (by omega), ← hc6] at hP hD
  have fc6 : ∀ j, j < k → ce6 j = ce j := fun j h => (by rw [hc6, va_up_ne _ _ (by omega)] : ce6 j = ce5 j).trans (fc5 j h)
  have q6_k___1 : ce6 (k + 1) = .inl (cI, 126, .inl (fun _ => 0)) := by rw [hc6, va_up_ne _ _ (by omega), q5_k___1]
  have q6_k___2 : ce6 (k + 2) = .inl (cI, 126, .inl (fun _ => 0)) := by rw [hc6, va_up_ne _ _ (by omega), q5_k___2]
  have qw6 : ce6 k = .inr (0, [.ref (ad3 (k + 1)), .ref (ad3 (k + 2)), .int (nI 0), .int (nI 0)]) := by rw [hc6, va_up_self]
  have ec6 : ∀ j, j ≠ k → ce6 j = ce5 j := fun j h => by rw [hc6, va_up_ne _ _ h]
  clear hc6
  exact W.vret hx hb hr (fun t ht hW => ⟨⟨(ad3, ce6), rfl, ⟨fa3, fc6, qw6, q6_k___1, q6_k___2⟩, by rw [ht]; exact hP, va_K.moved hW.alike hK, hD⟩, hS.F ht⟩) hS.2.2 dV_init_30

set_option maxHeartbeats 4000000 in
set_option maxRecDepth 100000 in
theorem c_T_init (l : Launch) (D : va_G) (cI cO cJ : ClassId)  (ad : Nat → Nat) (ce : Nat → va_E) (sz : Nat) (h0 : ce 2 = .inr (1, [.null, .null, .null, .int 0])) : Met l yT_init (.code yT_init bT_init 2 none :: WA) ({ frames := 2, cells := 30, slots := 10313, locals := 60 }) (PN D (TY cI cO cJ) 3 ad ce sz [.ref (ad 2)]) (va_Qv (fun u : (Nat → Nat) × (Nat → va_E) => (∀ j, j < 3 → u.1 j = ad j) ∧ (∀ j, j < 2 → u.2 j = ce j) ∧ TZ cI cO u.1 u.2) (BG D (TY cI cO cJ) 33 (AW 3 ad sz)) (AW 3 ad sz)) 30 10313 (AW 3 ad sz) := by
  refine Met.ofW (cc := bT_init) (maxL := 2) (ret := none) (by decide) rfl ?_
  intro p e s m args below meth c s₁ B hml hv
  obtain ⟨rfl, hsz, hP, hK, hD0, hO⟩ := hv
  have hx := B.exec
  have hb := B.bytes
  have hr := B.returns
  have hA9 : ∀ w ∈ WA, w.before _ s = true := fun w h => atoms_spec (ws := .code yT_init bT_init 2 none :: WA) B.pre w (List.mem_cons_of_mem _ h)
  have hown : s.vm.findClass RT = some m.cls := findClass_of_methodNamed B.named
  have hlocks := B.notSynchronized
  have hin : meth.name = "<init>" := (name_of_methodNamed B.named B.method).1
  subst hsz
  have hD := aw_D (sz := s.heap.size) hD0
  generalize hAe : AW 3 ad s.heap.size = A at hD ⊢
  have hA : ∀ q, s.heap.size ≤ q → A q := fun q h => by rw [← hAe]; exact Or.inr h
  clear hAe hD0
  have hl := lv_entry ([.ref (ad 2)]) (n := 2) (Nat.le_of_ble_eq_true rfl)
  rw [lg_entry_eq]
  generalize (lg_sl ([.ref (ad 2)]) ++ List.replicate (2 - (lg_sl ([.ref (ad 2)])).length) Slot.unset).toArray = ls at hl ⊢
  have hl : lv_has ls 2 [(0, .ref (ad 2))] := hl
  refine st0 (A := A) (fun H locs hS hH => ?_)
  rw [← hH] at hP
  clear hH
  refine lv_aload_n hx hb dT_init_0 rfl (lv_at hl 0 rfl) ?_
  refine W.objInit hx hb hown (hA9 _ mlT_3) (hA9 _ miobjectInit) (hA9 _ mkobj) rfl (by rw [hml]; exact hl.1) rfl dT_init_1 (Nat.le_of_ble_eq_true rfl) (Nat.le_of_ble_eq_true rfl) ?_
  refine W.eq (g2 := F0 m 4 ls []) rfl ?_
  refine lv_aload_n hx hb dT_init_4 rfl (lv_at hl 0 rfl) ?_
  refine lv_bipush (v := nI 9) hx hb dT_init_5 (by decide +kernel) ?_
  refine ix_newO (n := 9) hx hb hown (hA9 _ mcT_9) hO hK hP hD hS hA (by omega) (Nat.le_of_ble_eq_true rfl) (Nat.le_of_ble_eq_true rfl) dT_init_7 (fun q H hP hD hS => ?_)
  obtain ⟨ad1, hd1⟩ : ∃ z9, z9 = va_up ad 3 q := ⟨_, rfl⟩
  obtain ⟨ce1, hc1⟩ : ∃ z9, z9 = va_up ce 3 (.inl (cO, 9, .inr (.inr (.inr (.inr (fun _ => none)))))) := ⟨_, rfl⟩
  rw [← hd1, ← hc1] at hP hD
  have eq1 : q = ad1 3 := by rw [hd1, va_up_self]
  have ed1 : ∀ j, j < 3 → ad j = ad1 j := fun j h => by rw [hd1, va_up_ne _ _ (by omega)]
  have ec1 : ∀ j, j < 3 → ce1 j = ce j := fun j h => by rw [hc1, va_up_ne _ _ (by omega)]
  have fa1 : ∀ j, j < 3 → ad1 j = ad j := fun j h => (ed1 j (by omega)).symm.trans ((fun _ _ => rfl) j h)
  have fc1 : ∀ j, j < 2 → ce1 j = ce j := fun j h => (ec1 j (by omega)).trans ((fun _ _ => rfl) j h)
  have q1_2 : ce1 2 = .inr (1, [.null, .null, .null, .int 0]) := by rw [ec1 2 (by omega), h0]
  have qn1 : ce1 3 = .inl (cO, 9, .inr (.inr (.inr (.inr (fun _ => none))))) := by rw [hc1, va_up_self]
  replace hl : lv_has ls 2 [(0, .ref (ad1 2))] := by rw [← ed1 2 (by omega)]; exact hl
  refine W.eq (g2 := F0 m 10 ls [.ref (ad1 3), .ref (ad1 2)]) (by rw [eq1, ed1 2 (by omega)]) ?_
  clear hd1 hc1
  refine va_putF (D := D) (ci := 1) (v := .ref (ad1 3)) (ty := .array (.object "LevelTree$Level")) (C := RT) (T := TT) (N := 4) hx hb hA9 inT tyT tyT_ok nmT hown hK hP hD hS 2 (wx_at (by omega) q1_2) rfl 0 (by decide) (hA9 _ mfT_11) (fun _ h9 => h9) rfl hin rfl (by decide +kernel) rfl rfl (Nat.le_of_ble_eq_true rfl) dT_init_10 (fun H locs hP hD hS => ?_)
  replace hP : va_P D CLS ((wx 4 ad1 ce1).set 2 (ad1 2, .inr (1, [.ref (ad1 3), .null, .null, .int 0]))) H := hP
  replace hD : va_D A ((wx 4 ad1 ce1).set 2 (ad1 2, .inr (1, [.ref (ad1 3), .null, .null, .int 0]))) := hD
  obtain ⟨ce2, hc2⟩ : ∃ z9, z9 = va_up ce1 2 (.inr (1, [.ref (ad1 3), .null, .null, .int 0])) := ⟨_, rfl⟩
  rw [wx_set (by omega), ← hc2] at hP hD
  have fc2 : ∀ j, j < 2 → ce2 j = ce j := fun j h => (by rw [hc2, va_up_ne _ _ (by omega)] : ce2 j = ce1 j).trans (fc1 j h)
  have q2_3 : ce2 3 = .inl (cO, 9, .inr (.inr (.inr (.inr (fun _ => none))))) := by rw [hc2, va_up_ne _ _ (by omega), qn1]
  have qw2 : ce2 2 = .inr (1, [.ref (ad1 3), .null, .null, .int 0]) := by rw [hc2, va_up_self]
  have ec2 : ∀ j, j ≠ 2 → ce2 j = ce1 j := fun j h => by rw [hc2, va_up_ne _ _ h]
  clear hc2
  refine lv_aload_n hx hb dT_init_13 rfl (lv_at hl 0 rfl) ?_
  refine lv_sipush (v := nI 4000) hx hb dT_init_14 (by decide +kernel) ?_
  refine ix_newI (n := 4000) hx hb (hA9 _ ma_int) hK hP hD hS hA (by omega) (Nat.le_of_ble_eq_true rfl) (Nat.le_of_ble_eq_true rfl) dT_init_17 (fun q H hP hD hS => ?_)
  obtain ⟨ad3, hd3⟩ : ∃ z9, z9 = va_up ad1 4 q := ⟨_, rfl⟩
  obtain ⟨ce3, hc3⟩ : ∃ z9, z9 = va_up ce2 4 (.inl (cI, 4000, .inl (fun _ => 0))) := ⟨_, rfl⟩
  rw [← hd3, ← hc3] at hP hD
  have eq3 : q = ad3 4 := by rw [hd3, va_up_self]
  have ed3 : ∀ j, j < 4 → ad1 j = ad3 j := fun j h => by rw [hd3, va_up_ne _ _ (by omega)]
  have ec3 : ∀ j, j < 4 → ce3 j = ce2 j := fun j h => by rw [hc3, va_up_ne _ _ (by omega)]
  have fa3 : ∀ j, j < 3 → ad3 j = ad j := fun j h => (ed3 j (by omega)).symm.trans (fa1 j h)
  have fc3 : ∀ j, j < 2 → ce3 j = ce j := fun j h => (ec3 j (by omega)).trans (fc2 j h)
  have q3_2 : ce3 2 = .inr (1, [.ref (ad3 3), .null, .null, .int 0]) := by rw [ec3 2 (by omega), qw2, ed3 3 (by omega)]
  have q3_3 : ce3 3 = .inl (cO, 9, .inr (.inr (.inr (.inr (fun _ => none))))) := by rw [ec3 3 (by omega), q2_3]
  have qn3 : ce3 4 = .inl (cI, 4000, .inl (fun _ => 0)) := by rw [hc3, va_up_self]
  replace hl : lv_has ls 2 [(0, .ref (ad3 2))] := by rw [← ed3 2 (by omega)]; exact hl
  refine W.eq (g2 := F0 m 19 ls [.ref (ad3 4), .ref (ad3 2)]) (by rw [eq3, ed3 2 (by omega)]) ?_
  clear hd3 hc3
  refine va_putF (D := D) (ci := 1) (v := .ref (ad3 4)) (ty := .array .int) (C := RT) (T := TT) (N := 4) hx hb hA9 inT tyT tyT_ok nmT hown hK hP hD hS 2 (wx_at (by omega) q3_2) rfl 1 (by decide) (hA9 _ mfT_17) (fun _ h9 => h9) rfl hin rfl (by decide +kernel) rfl rfl (Nat.le_of_ble_eq_true rfl) dT_init_19 (fun H locs hP hD hS => ?_)
  replace hP : va_P D CLS ((wx 5 ad3 ce3).set 2 (ad3 2, .inr (1, [.ref (ad3 3), .ref (ad3 4), .null, .int 0]))) H := hP
  replace hD : va_D A ((wx 5 ad3 ce3).set 2 (ad3 2, .inr (1, [.ref (ad3 3), .ref (ad3 4), .null, .int 0]))) := hD
  obtain ⟨ce4, hc4⟩ : ∃ z9, z9 = va_up ce3 2 (.inr (1, [.ref (ad3 3), .ref (ad3 4), .null, .int 0])) := ⟨_, rfl⟩
  rw [wx_set (by omega), ← hc4] at hP hD
  have fc4 : ∀ j, j < 2 → ce4 j = ce j := fun j h => (by rw [hc4, va_up_ne _ _ (by omega)] : ce4 j = ce3 j).trans (fc3 j h)
  have q4_3 : ce4 3 = .inl (cO, 9, .inr (.inr (.inr (.inr (fun _ => none))))) := by rw [hc4, va_up_ne _ _ (by omega), q3_3]
  have q4_4 : ce4 4 = .inl (cI, 4000, .inl (fun _ => 0)) := by rw [hc4, va_up_ne _ _ (by omega), qn3]
  have qw4 : ce4 2 = .inr (1, [.ref (ad3 3), .ref (ad3 4), .null, .int 0]) := by rw [hc4, va_up_self]
  have ec4 : ∀ j, j ≠ 2 → ce4 j = ce3 j := fun j h => by rw [hc4, va_up_ne _ _ h]
  clear hc4
  refine lv_aload_n hx hb dT_init_22 rfl (lv_at hl 0 rfl) ?_
  refine lv_sipush (v := nI 4000) hx hb dT_init_23 (by decide +kernel) ?_
  refine ix_newI (n := 4000) hx hb (hA9 _ ma_int) hK hP hD hS hA (by omega) (Nat.le_of_ble_eq_true rfl) (Nat.le_of_ble_eq_true rfl) dT_init_26 (fun q H hP hD hS => ?_)
  obtain ⟨ad5, hd5⟩ : ∃ z9, z9 = va_up ad3 5 q := ⟨_, rfl⟩
  obtain ⟨ce5, hc5⟩ : ∃ z9, z9 = va_up ce4 5 (.inl (cI, 4000, .inl (fun _ => 0))) := ⟨_, rfl⟩
  rw [← hd5, ← hc5] at hP hD
  have eq5 : q = ad5 5 := by rw [hd5, va_up_self]
  have ed5 : ∀ j, j < 5 → ad3 j = ad5 j := fun j h => by rw [hd5, va_up_ne _ _ (by omega)]
  have ec5 : ∀ j, j < 5 → ce5 j = ce4 j := fun j h => by rw [hc5, va_up_ne _ _ (by omega)]
  have fa5 : ∀ j, j < 3 → ad5 j = ad j := fun j h => (ed5 j (by omega)).symm.trans (fa3 j h)
  have fc5 : ∀ j, j < 2 → ce5 j = ce j := fun j h => (ec5 j (by omega)).trans (fc4 j h)
  have q5_2 : ce5 2 = .inr (1, [.ref (ad5 3), .ref (ad5 4), .null, .int 0]) := by rw [ec5 2 (by omega), qw4, ed5 3 (by omega), ed5 4 (by omega)]
  have q5_3 : ce5 3 = .inl (cO, 9, .inr (.inr (.inr (.inr (fun _ => none))))) := by rw [ec5 3 (by omega), q4_3]
  have q5_4 : ce5 4 = .inl (cI, 4000, .inl (fun _ => 0)) := by rw [ec5 4 (by omega), q4_4]
  have qn5 : ce5 5 = .inl (cI, 4000, .inl (fun _ => 0)) := by rw [hc5, va_up_self]
  replace hl : lv_has ls 2 [(0, .ref (ad5 2))] := by rw [← ed5 2 (by omega)]; exact hl
  refine W.eq (g2 := F0 m 28 ls [.ref (ad5 5), .ref (ad5 2)]) (by rw [eq5, ed5 2 (by omega)]) ?_
  clear hd5 hc5
  refine va_putF (D := D) (ci := 1) (v := .ref (ad5 5)) (ty := .array .int) (C := RT) (T := TT) (N := 4) hx hb hA9 inT tyT tyT_ok nmT hown hK hP hD hS 2 (wx_at (by omega) q5_2) rfl 2 (by decide) (hA9 _ mfT_21) (fun _ h9 => h9) rfl hin rfl (by decide +kernel) rfl rfl (Nat.le_of_ble_eq_true rfl) dT_init_28 (fun H locs hP hD hS => ?_)
  replace hP : va_P D CLS ((wx 6 ad5 ce5).set 2 (ad5 2, .inr (1, [.ref (ad5 3), .ref (ad5 4), .ref (ad5 5), .int 0]))) H := hP
  replace hD : va_D A ((wx 6 ad5 ce5).set 2 (ad5 2, .inr (1, [.ref (ad5 3), .ref (ad5 4), .ref (ad5 5), .int 0]))) := hD
  obtain ⟨ce6, hc6⟩ : ∃ z9, z9 = va_up ce5 2 (.inr (1, [.ref (ad5 3), .ref (ad5 4), .ref (ad5 5), .int 0])) := ⟨_, rfl⟩
  rw [wx_set (by omega), ← hc6] at hP hD
  have fc6 : ∀ j, j < 2 → ce6 j = ce j := fun j h => (by rw [hc6, va_up_ne _ _ (by omega)] : ce6 j = ce5 j).trans (fc5 j h)
  have q6_3 : ce6 3 = .inl (cO, 9, .inr (.inr (.inr (.inr (fun _ => none))))) := by rw [hc6, va_up_ne _ _ (by omega), q5_3]
  have q6_4 : ce6 4 = .inl (cI, 4000, .inl (fun _ => 0)) := by rw [hc6, va_up_ne _ _ (by omega), q5_4]
  have q6_5 : ce6 5 = .inl (cI, 4000, .inl (fun _ => 0)) := by rw [hc6, va_up_ne _ _ (by omega), qn5]
  have qw6 : ce6 2 = .inr (1, [.ref (ad5 3), .ref (ad5 4), .ref (ad5 5), .int 0]) := by rw [hc6, va_up_self]
  have ec6 : ∀ j, j ≠ 2 → ce6 j = ce5 j := fun j h => by rw [hc6, va_up_ne _ _ h]
  clear hc6
  refine lv_iconst (v := nI 0) hx hb dT_init_31 (by decide +kernel) ?_
  refine lv_istore_n (lv' := [(1, .int (nI 0)), (0, .ref (ad5 2))]) hx hb dT_init_32 rfl hl (by decide) rfl (fun ls hl => ?_)
  obtain ⟨d, hd0⟩ : ∃ z9 : Nat, z9 = 0 := ⟨_, rfl⟩
  obtain ⟨lv, hlv0⟩ : ∃ z9 : Nat → Option Nat, z9 = fun _ => none := ⟨_, rfl⟩
  obtain ⟨al, hal0⟩ : ∃ z9 : Nat → Nat, z9 = ad5 := ⟨_, rfl⟩
  obtain ⟨cl, hcl0⟩ : ∃ z9 : Nat → va_E, z9 = ce6 := ⟨_, rfl⟩
  have J : d ≤ 9 ∧ (∀ j, j < 3 → al j = ad j) ∧ (∀ j, j < 2 → cl j = ce j) ∧ cl 2 = .inr (1, [.ref (al 3), .ref (al 4), .ref (al 5), .int 0]) ∧ cl 3 = .inl (cO, 9, .inr (.inr (.inr (.inr lv)))) ∧ (∀ i, i < d → lv i = some (al (6 + 3 * i))) ∧ (∀ i, i < d → LZ cI al cl (6 + 3 * i)) ∧ cl 4 = .inl (cI, 4000, .inl (fun _ => 0)) ∧ cl 5 = .inl (cI, 4000, .inl (fun _ => 0)) := by
    subst hd0 hlv0 hal0 hcl0
    exact ⟨by omega, fa5, fc6, qw6, q6_3, fun i h => absurd h (by omega), fun i h => absurd h (by omega), q6_4, q6_5⟩
  replace hl : lv_has ls 2 [(1, .int (nI d)), (0, .ref (al 2))] := by subst hd0 hal0; exact hl
  replace hP : va_P D CLS (wx (6 + 3 * d) al cl) H := by subst hd0 hal0 hcl0; exact hP
  replace hD : va_D A (wx (6 + 3 * d) al cl) := by subst hd0 hal0 hcl0; exact hD
  refine W.widen (k := 3 + 3 * d) (n := 8009 + 256 * d) (by omega) (by omega) ?_
  clear hd0 hlv0 hal0 hcl0
  obtain ⟨k9, hk9⟩ : ∃ z9 : Nat, z9 = 9 - d := ⟨_, rfl⟩
  induction k9 using Nat.strongRecOn generalizing d lv al cl H locs ls with
  | ind k9 ih =>
    obtain ⟨j1, j2, j3, j4, j5, j6, j7, j8, j9⟩ := J
    refine lv_iload_n hx hb dT_init_33 rfl (lv_at hl 0 rfl) ?_
    refine lv_bipush (v := nI 9) hx hb dT_init_34 (by decide +kernel) ?_
    refine lv_icmp_ge (tgt := 58) hx hb dT_init_36 (by decide) (fun c36 => ?_) (fun c36 => ?_)
    · obtain rfl : d = 9 := by have := leN c36; omega
      refine lv_aload_n hx hb dT_init_58 rfl (lv_at hl 1 rfl) ?_
      refine lv_iconst (v := nI 0) hx hb dT_init_59 (by decide +kernel) ?_
      refine va_put (D := D) (ci := 1) (v := .int (nI 0)) (ty := .int) (C := RT) (T := TT) (N := 4) hx hb hA9 inT tyT tyT_ok nmT hown hK hP hD hS 2 (wx_at (by omega) j4) rfl 3 (by decide) (hA9 _ mfT_25) (fun _ h9 => h9) rfl (by decide +kernel) rfl rfl (Nat.le_of_ble_eq_true rfl) dT_init_60 (fun H locs hP hD hS => ?_)
      replace hP : va_P D CLS ((wx 33 al cl).set 2 (al 2, .inr (1, [.ref (al 3), .ref (al 4), .ref (al 5), .int (nI 0)]))) H := hP
      replace hD : va_D A ((wx 33 al cl).set 2 (al 2, .inr (1, [.ref (al 3), .ref (al 4), .ref (al 5), .int (nI 0)]))) := hD
      obtain ⟨ce7, hc7⟩ : ∃ z9, z9 = va_up cl 2 (.inr (1, [.ref (al 3), .ref (al 4), .ref (al 5), .int (nI 0)])) := ⟨_, rfl⟩
      rw [wx_set (by omega), ← hc7] at hP hD
      have fc7 : ∀ j, j < 2 → ce7 j = ce j := fun j h => (by rw [hc7, va_up_ne _ _ (by omega)] : ce7 j = cl j).trans (j3 j h)
      have q7_3 : ce7 3 = .inl (cO, 9, .inr (.inr (.inr (.inr lv)))) := by rw [hc7, va_up_ne _ _ (by omega), j5]
      have q7_4 : ce7 4 = .inl (cI, 4000, .inl (fun _ => 0)) := by rw [hc7, va_up_ne _ _ (by omega), j8]
      have q7_5 : ce7 5 = .inl (cI, 4000, .inl (fun _ => 0)) := by rw [hc7, va_up_ne _ _ (by omega), j9]
      have qw7 : ce7 2 = .inr (1, [.ref (al 3), .ref (al 4), .ref (al 5), .int (nI 0)]) := by rw [hc7, va_up_self]
      have ec7 : ∀ j, j ≠ 2 → ce7 j = cl j := fun j h => by rw [hc7, va_up_ne _ _ h]
      clear hc7
      exact W.vret hx hb hr (fun t ht hW => ⟨⟨(al, ce7), rfl, ⟨j2, fc7, qw7, ⟨lv, q7_3, j6⟩, fun i h => (j7 i h).cg (fun _ _ _ => rfl) (fun j q1 q2 => ec7 j (by omega)), q7_4, q7_5⟩, by rw [ht]; exact hP, va_K.moved hW.alike hK, hD⟩, hS.F ht⟩) hS.2.2 dT_init_63
    · skip
      have hd : d < 9 := by have := nleN c36; omega
      refine lv_aload_n hx hb dT_init_39 rfl (lv_at hl 1 rfl) ?_
      refine va_get (D := D) (ci := 1) (v := .ref (al 3)) (C := RT) (T := TT) (N := 4) hx hb hA9 inT hown hK hP 2 (wx_at (by omega) j4) rfl 0 (by decide) (hA9 _ mfT_11) (fun _ h9 => h9) rfl dT_init_40 ?_
      refine lv_iload_n hx hb dT_init_43 rfl (lv_at hl 0 rfl) ?_
      have r1 : 3 + 3 * d + 1 ≤ 30 := by omega
      have r2 : 8009 + 256 * d + 4 ≤ 10313 := by omega
      have r3 : 3 + 3 * d + 1 + 2 ≤ 30 := by omega
      have r4 : 8009 + 256 * d + 4 + 252 ≤ 10313 := by omega
      refine va_new (D := D) (ci := 0) (C := RV) (T := TV) (N := 4) (fs := [.null, .null, .int 0, .int 0]) hx hb hA9 inV tyV tyV_ok hown (hA9 _ mcT_9) (hA9 _ mo_V) (hA9 _ mn_V) hK hP hD hS hA rfl (by decide +kernel) r1 r2 dT_init_44 (fun q H hP hD hS => ?_)
      rw [wx_push] at hP hD
      obtain ⟨ad8, hd8⟩ : ∃ z9, z9 = va_up al (6 + 3 * d) q := ⟨_, rfl⟩
      obtain ⟨ce8, hc8⟩ : ∃ z9, z9 = va_up cl (6 + 3 * d) (.inr (0, [.null, .null, .int 0, .int 0])) := ⟨_, rfl⟩
      rw [← hd8, ← hc8] at hP hD
      have eq8 : q = ad8 (6 + 3 * d) := by rw [hd8, va_up_self]
      have ed8 : ∀ j, j < 6 + 3 * d → al j = ad8 j := fun j h => by rw [hd8, va_up_ne _ _ (by omega)]
      have ec8 : ∀ j, j < 6 + 3 * d → ce8 j = cl j := fun j h => by rw [hc8, va_up_ne _ _ (by omega)]
      have fa8 : ∀ j, j < 3 → ad8 j = ad j := fun j h => (ed8 j (by omega)).symm.trans (j2 j h)
      have fc8 : ∀ j, j < 2 → ce8 j = ce j := fun j h => (ec8 j (by omega)).trans (j3 j h)
      have q8_2 : ce8 2 = .inr (1, [.ref (ad8 3), .ref (ad8 4), .ref (ad8 5), .int 0]) := by rw [ec8 2 (by omega), j4, ed8 3 (by omega), ed8 4 (by omega), ed8 5 (by omega)]
      have q8_3 : ce8 3 = .inl (cO, 9, .inr (.inr (.inr (.inr lv)))) := by rw [ec8 3 (by omega), j5]
      have q8_4 : ce8 4 = .inl (cI, 4000, .inl (fun _ => 0)) := by rw [ec8 4 (by omega), j8]
      have q8_5 : ce8 5 = .inl (cI, 4000, .inl (fun _ => 0)) := by rw [ec8 5 (by omega), j9]
      have qn8 : ce8 (6 + 3 * d) = .inr (0, [.null, .null, .int 0, .int 0]) := by rw [hc8, va_up_self]
      replace hl : lv_has ls 2 [(1, .int (nI d)), (0, .ref (ad8 2))] := by rw [← ed8 2 (by omega)]; exact hl
      refine W.eq (g2 := F0 m 47 ls [.ref (ad8 (6 + 3 * d)), .int (nI d), .ref (ad8 3)]) (by rw [eq8, ed8 3 (by omega)]) ?_
      clear hd8 hc8
      refine lv_dup hx hb dT_init_47 rfl ?_
      refine cg (va_runI (As := []) (rest := [.ref (ad8 (6 + 3 * d)), .int (nI d), .ref (ad8 3)]) ⟨hx, hb, hml, hown, hA9⟩ (c_V_init l D cI cO cJ (6 + 3 * d) ad8 ce8 _ qn8) (cwI 0 hA9 (gI mkV_init) rfl rfl rfl (hA9 _ mn_V) (hA9 _ mlT_24) (hA9 _ miV_init) rfl (by decide +kernel) ⟨Nat.le_of_ble_eq_true rfl, Nat.le_of_ble_eq_true rfl⟩) ⟨PM_bl, PM_mk hK hP hD⟩ rfl rfl hl.1 rfl (lv_room (Nat.le_of_ble_eq_true rfl)) dT_init_48 ⟨r3, r4⟩) hS hD hA (fun ad9 ce9 H locs hpost hP hD hS => ?_)
      obtain ⟨xa, xc, xl⟩ : (∀ j, j < 6 + 3 * d + 1 → ad9 j = ad8 j) ∧ (∀ j, j < 6 + 3 * d → ce9 j = ce8 j) ∧ LZ cI ad9 ce9 (6 + 3 * d) := hpost
      have ed9 : ∀ j, j < 6 + 3 * d + 1 → ad8 j = ad9 j := fun j h => (xa j h).symm
      have q9_2 : ce9 2 = .inr (1, [.ref (ad9 3), .ref (ad9 4), .ref (ad9 5), .int 0]) := by rw [xc 2 (by omega), q8_2, ed9 3 (by omega), ed9 4 (by omega), ed9 5 (by omega)]
      have q9_3 : ce9 3 = .inl (cO, 9, .inr (.inr (.inr (.inr lv)))) := by rw [xc 3 (by omega), q8_3]
      have q9_4 : ce9 4 = .inl (cI, 4000, .inl (fun _ => 0)) := by rw [xc 4 (by omega), q8_4]
      have q9_5 : ce9 5 = .inl (cI, 4000, .inl (fun _ => 0)) := by rw [xc 5 (by omega), q8_5]
      replace hl : lv_has ls 2 [(1, .int (nI d)), (0, .ref (ad9 2))] := by rw [← ed9 2 (by omega)]; exact hl
      refine W.eq (g2 := F0 m 51 ls [.ref (ad9 (6 + 3 * d)), .int (nI d), .ref (ad9 3)]) (by rw [ed9 (6 + 3 * d) (by omega), ed9 3 (by omega)]) ?_
      refine va_astq (r := (RV, TV, 4)) hx hb hK hP hD hS 3 1 (6 + 3 * d) 0 (wx_at (by omega) q9_3) rfl (wx_at (by omega) xl.1) rfl (inN) dT_init_51 (fun H locs hP hD hS => ?_)
      rw [clN (a := d)] at hP hD
      have fc9 : ∀ j, j < 2 → ce9 j = ce j := fun j h => (xc j (by omega)).trans (fc8 j h)
      obtain ⟨ce10, hc10⟩ : ∃ z9, z9 = va_up ce9 3 (.inl (cO, 9, .inr (.inr (.inr (.inr (va_up lv d (some (ad9 (6 + 3 * d))))))))) := ⟨_, rfl⟩
      rw [wx_set (by omega), ← hc10] at hP hD
      have fc10 : ∀ j, j < 2 → ce10 j = ce j := fun j h => (by rw [hc10, va_up_ne _ _ (by omega)] : ce10 j = ce9 j).trans (fc9 j h)
      have q10_2 : ce10 2 = .inr (1, [.ref (ad9 3), .ref (ad9 4), .ref (ad9 5), .int 0]) := by rw [hc10, va_up_ne _ _ (by omega), q9_2]
      have q10_4 : ce10 4 = .inl (cI, 4000, .inl (fun _ => 0)) := by rw [hc10, va_up_ne _ _ (by omega), q9_4]
      have q10_5 : ce10 5 = .inl (cI, 4000, .inl (fun _ => 0)) := by rw [hc10, va_up_ne _ _ (by omega), q9_5]
      have qw10 : ce10 3 = .inl (cO, 9, .inr (.inr (.inr (.inr (va_up lv d (some (ad9 (6 + 3 * d)))))))) := by rw [hc10, va_up_self]
      have ec10 : ∀ j, j ≠ 3 → ce10 j = ce9 j := fun j h => by rw [hc10, va_up_ne _ _ h]
      clear hc10
      refine lv_iinc (v := nI (d + 1)) (lv' := [(1, .int (nI (d + 1))), (0, .ref (ad9 2))]) hx hb dT_init_52 hl (k := 0) rfl (nI_1 _) (by decide) rfl (fun ls hl => ?_)
      refine lv_goto (tgt := 33) hx hb dT_init_55 (by decide) ?_
      have xe : ∀ j, j < 6 + 3 * d → j ≠ 3 → ce10 j = cl j := fun j h1 h2 => by rw [ec10 j h2, xc j h1, ec8 j h1]
      have xd : ∀ j, j < 6 + 3 * d → ad9 j = al j := fun j h1 => by rw [xa j (by omega), ← ed8 j h1]
      refine W.widen (k := 3 + 3 * (d + 1)) (n := 8009 + 256 * (d + 1)) (by omega) (by omega) ?_
      exact ih _ (by omega) (d := d + 1) (lv := va_up lv d (some (ad9 (6 + 3 * d)))) (al := ad9) (cl := ce10) (H := H) (locs := locs) (ls := ls) (hP := hP) (hD := hD) (hS := hS) (hl := hl) (hk9 := rfl)
        (J := ⟨by omega, fun j h => (xd j (by omega)).trans (j2 j h), fun j h => (xe j (by omega) (by omega)).trans (j3 j h), q10_2, qw10, fun i h => by
          rcases Nat.lt_or_ge i d with q | q
          · rw [va_up_ne _ _ (by omega), j6 i q, xd _ (by omega)]
          · rw [show i = d by omega, va_up_self], fun i h => by
          rcases Nat.lt_or_ge i d with q | q
          · exact (j7 i q).cg (fun j q1 q2 => xd j (by omega)) (fun j q1 q2 => xe j (by omega) (by omega))
          · obtain rfl : i = d := by omega
            exact xl.cg (fun _ _ _ => rfl) (fun j q1 q2 => ec10 j (by omega)), q10_4, q10_5⟩)

set_option maxHeartbeats 4000000 in
set_option maxRecDepth 100000 in
theorem c_L_init (l : Launch) (D : va_G) (cI cO cJ : ClassId)  (ad : Nat → Nat) (ce : Nat → va_E) (sz : Nat) (h0 : ce 0 = .inr (2, [.null, .null, .null, .int 0, .int 0])) : Met l yL_init (.code yL_init bL_init 1 none :: WA) ({ frames := 3, cells := 33, slots := 14829, locals := 81 }) (PN D (TY cI cO cJ) 1 ad ce sz [.ref (ad 0)]) (va_Qv (fun u : (Nat → Nat) × (Nat → va_E) => u.1 0 = ad 0 ∧ u.2 0 = .inr (2, [.ref (u.1 1), .ref (u.1 2), .ref (u.1 33), .int (nI 0), .int (nI 0)]) ∧ u.2 1 = .inl (cI, 4000, .inl (fun _ => 0)) ∧ TZ cI cO u.1 u.2 ∧ u.2 33 = .inl (cI, 512, .inl (fun _ => 0))) (BG D (TY cI cO cJ) 34 (AW 1 ad sz)) (AW 1 ad sz)) 33 14829 (AW 1 ad sz) := by
  refine Met.ofW (cc := bL_init) (maxL := 1) (ret := none) (by decide) rfl ?_
  intro p e s m args below meth c s₁ B hml hv
  obtain ⟨rfl, hsz, hP, hK, hD0, hO⟩ := hv
  have hx := B.exec
  have hb := B.bytes
  have hr := B.returns
  have hA9 : ∀ w ∈ WA, w.before _ s = true := fun w h => atoms_spec (ws := .code yL_init bL_init 1 none :: WA) B.pre w (List.mem_cons_of_mem _ h)
  have hown : s.vm.findClass RL = some m.cls := findClass_of_methodNamed B.named
  have hlocks := B.notSynchronized
  have hin : meth.name = "<init>" := (name_of_methodNamed B.named B.method).1
  subst hsz
  have hD := aw_D (sz := s.heap.size) hD0
  generalize hAe : AW 1 ad s.heap.size = A at hD ⊢
  have hA : ∀ q, s.heap.size ≤ q → A q := fun q h => by rw [← hAe]; exact Or.inr h
  clear hAe hD0
  have hl := lv_entry ([.ref (ad 0)]) (n := 1) (Nat.le_of_ble_eq_true rfl)
  rw [lg_entry_eq]
  generalize (lg_sl ([.ref (ad 0)]) ++ List.replicate (1 - (lg_sl ([.ref (ad 0)])).length) Slot.unset).toArray = ls at hl ⊢
  have hl : lv_has ls 1 [(0, .ref (ad 0))] := hl
  refine st0 (A := A) (fun H locs hS hH => ?_)
  rw [← hH] at hP
  clear hH
  refine lv_aload_n hx hb dL_init_0 rfl (lv_at hl 0 rfl) ?_
  refine W.objInit hx hb hown (hA9 _ mlL_3) (hA9 _ miobjectInit) (hA9 _ mkobj) rfl (by rw [hml]; exact hl.1) rfl dL_init_1 (Nat.le_of_ble_eq_true rfl) (Nat.le_of_ble_eq_true rfl) ?_
  refine W.eq (g2 := F0 m 4 ls []) rfl ?_
  refine lv_aload_n hx hb dL_init_4 rfl (lv_at hl 0 rfl) ?_
  refine lv_sipush (v := nI 4000) hx hb dL_init_5 (by decide +kernel) ?_
  refine ix_newI (n := 4000) hx hb (hA9 _ ma_int) hK hP hD hS hA (by omega) (Nat.le_of_ble_eq_true rfl) (Nat.le_of_ble_eq_true rfl) dL_init_8 (fun q H hP hD hS => ?_)
  obtain ⟨ad1, hd1⟩ : ∃ z9, z9 = va_up ad 1 q := ⟨_, rfl⟩
  obtain ⟨ce1, hc1⟩ : ∃ z9, z9 = va_up ce 1 (.inl (cI, 4000, .inl (fun _ => 0))) := ⟨_, rfl⟩
  rw [← hd1, ← hc1] at hP hD
  have eq1 : q = ad1 1 := by rw [hd1, va_up_self]
  have ed1 : ∀ j, j < 1 → ad j = ad1 j := fun j h => by rw [hd1, va_up_ne _ _ (by omega)]
  have ec1 : ∀ j, j < 1 → ce1 j = ce j := fun j h => by rw [hc1, va_up_ne _ _ (by omega)]
  have fa1 : ∀ j, j < 1 → ad1 j = ad j := fun j h => (ed1 j (by omega)).symm.trans ((fun _ _ => rfl) j h)
  have fc1 : ∀ j, j < 0 → ce1 j = ce j := fun j h => (ec1 j (by omega)).trans ((fun _ _ => rfl) j h)
  have q1_0 : ce1 0 = .inr (2, [.null, .null, .null, .int 0, .int 0]) := by rw [ec1 0 (by omega), h0]
  have qn1 : ce1 1 = .inl (cI, 4000, .inl (fun _ => 0)) := by rw [hc1, va_up_self]
  replace hl : lv_has ls 1 [(0, .ref (ad1 0))] := by rw [← ed1 0 (by omega)]; exact hl
  refine W.eq (g2 := F0 m 10 ls [.ref (ad1 1), .ref (ad1 0)]) (by rw [eq1, ed1 0 (by omega)]) ?_
  clear hd1 hc1
  refine va_putF (D := D) (ci := 2) (v := .ref (ad1 1)) (ty := .array .int) (C := RL) (T := TL) (N := 5) hx hb hA9 inL tyL tyL_ok nmL hown hK hP hD hS 0 (wx_at (by omega) q1_0) rfl 0 (by decide) (hA9 _ mfL_9) (fun _ h9 => h9) rfl hin rfl (by decide +kernel) rfl rfl (Nat.le_of_ble_eq_true rfl) dL_init_10 (fun H locs hP hD hS => ?_)
  replace hP : va_P D CLS ((wx 2 ad1 ce1).set 0 (ad1 0, .inr (2, [.ref (ad1 1), .null, .null, .int 0, .int 0]))) H := hP
  replace hD : va_D A ((wx 2 ad1 ce1).set 0 (ad1 0, .inr (2, [.ref (ad1 1), .null, .null, .int 0, .int 0]))) := hD
  obtain ⟨ce2, hc2⟩ : ∃ z9, z9 = va_up ce1 0 (.inr (2, [.ref (ad1 1), .null, .null, .int 0, .int 0])) := ⟨_, rfl⟩
  rw [wx_set (by omega), ← hc2] at hP hD
  have fc2 : ∀ j, j < 0 → ce2 j = ce j := fun j h => (by rw [hc2, va_up_ne _ _ (by omega)] : ce2 j = ce1 j).trans (fc1 j h)
  have q2_1 : ce2 1 = .inl (cI, 4000, .inl (fun _ => 0)) := by rw [hc2, va_up_ne _ _ (by omega), qn1]
  have qw2 : ce2 0 = .inr (2, [.ref (ad1 1), .null, .null, .int 0, .int 0]) := by rw [hc2, va_up_self]
  have ec2 : ∀ j, j ≠ 0 → ce2 j = ce1 j := fun j h => by rw [hc2, va_up_ne _ _ h]
  clear hc2
  refine lv_aload_n hx hb dL_init_13 rfl (lv_at hl 0 rfl) ?_
  refine va_new (D := D) (ci := 1) (C := RT) (T := TT) (N := 4) (fs := [.null, .null, .null, .int 0]) hx hb hA9 inT tyT tyT_ok hown (hA9 _ mcL_13) (hA9 _ mo_T) (hA9 _ mn_T) hK hP hD hS hA rfl (by decide +kernel) (Nat.le_of_ble_eq_true rfl) (Nat.le_of_ble_eq_true rfl) dL_init_14 (fun q H hP hD hS => ?_)
  rw [wx_push] at hP hD
  obtain ⟨ad3, hd3⟩ : ∃ z9, z9 = va_up ad1 2 q := ⟨_, rfl⟩
  obtain ⟨ce3, hc3⟩ : ∃ z9, z9 = va_up ce2 2 (.inr (1, [.null, .null, .null, .int 0])) := ⟨_, rfl⟩
  rw [← hd3, ← hc3] at hP hD
  have eq3 : q = ad3 2 := by rw [hd3, va_up_self]
  have ed3 : ∀ j, j < 2 → ad1 j = ad3 j := fun j h => by rw [hd3, va_up_ne _ _ (by omega)]
  have ec3 : ∀ j, j < 2 → ce3 j = ce2 j := fun j h => by rw [hc3, va_up_ne _ _ (by omega)]
  have fa3 : ∀ j, j < 1 → ad3 j = ad j := fun j h => (ed3 j (by omega)).symm.trans (fa1 j h)
  have fc3 : ∀ j, j < 0 → ce3 j = ce j := fun j h => (ec3 j (by omega)).trans (fc2 j h)
  have q3_0 : ce3 0 = .inr (2, [.ref (ad3 1), .null, .null, .int 0, .int 0]) := by rw [ec3 0 (by omega), qw2, ed3 1 (by omega)]
  have q3_1 : ce3 1 = .inl (cI, 4000, .inl (fun _ => 0)) := by rw [ec3 1 (by omega), q2_1]
  have qn3 : ce3 2 = .inr (1, [.null, .null, .null, .int 0]) := by rw [hc3, va_up_self]
  replace hl : lv_has ls 1 [(0, .ref (ad3 0))] := by rw [← ed3 0 (by omega)]; exact hl
  refine W.eq (g2 := F0 m 17 ls [.ref (ad3 2), .ref (ad3 0)]) (by rw [eq3, ed3 0 (by omega)]) ?_
  clear hd3 hc3
  refine lv_dup hx hb dL_init_17 rfl ?_
  refine cg (va_runI (As := []) (rest := [.ref (ad3 2), .ref (ad3 0)]) ⟨hx, hb, hml, hown, hA9⟩ (c_T_init l D cI cO cJ ad3 ce3 _ qn3) (cwI 0 hA9 (gI mkT_init) rfl rfl rfl (hA9 _ mn_T) (hA9 _ mlL_15) (hA9 _ miT_init) rfl (by decide +kernel) ⟨Nat.le_of_ble_eq_true rfl, Nat.le_of_ble_eq_true rfl⟩) ⟨PN_bl, PN_mk hK hP hD hO⟩ rfl rfl hl.1 rfl (lv_room (Nat.le_of_ble_eq_true rfl)) dL_init_18 ⟨Nat.le_of_ble_eq_true rfl, Nat.le_of_ble_eq_true rfl⟩) hS hD hA (fun ad4 ce4 H locs hpost hP hD hS => ?_)
  obtain ⟨xa, xc, xt⟩ : (∀ j, j < 3 → ad4 j = ad3 j) ∧ (∀ j, j < 2 → ce4 j = ce3 j) ∧ TZ cI cO ad4 ce4 := hpost
  have ed4 : ∀ j, j < 3 → ad3 j = ad4 j := fun j h => (xa j h).symm
  have q4_0 : ce4 0 = .inr (2, [.ref (ad4 1), .null, .null, .int 0, .int 0]) := by rw [xc 0 (by omega), q3_0, ed4 1 (by omega)]
  have q4_1 : ce4 1 = .inl (cI, 4000, .inl (fun _ => 0)) := by rw [xc 1 (by omega), q3_1]
  have fa4 : ∀ j, j < 1 → ad4 j = ad j := fun j h => (xa j (by omega)).trans (fa3 j h)
  have fc4 : ∀ j, j < 0 → ce4 j = ce j := fun j h => absurd h (by omega)
  replace hl : lv_has ls 1 [(0, .ref (ad4 0))] := by rw [← ed4 0 (by omega)]; exact hl
  refine W.eq (g2 := F0 m 21 ls [.ref (ad4 2), .ref (ad4 0)]) (by rw [ed4 2 (by omega), ed4 0 (by omega)]) ?_
  refine va_putF (D := D) (ci := 2) (v := .ref (ad4 2)) (ty := .object "LevelTree$Tree") (C := RL) (T := TL) (N := 5) hx hb hA9 inL tyL tyL_ok nmL hown hK hP hD hS 0 (wx_at (by omega) q4_0) rfl 1 (by decide) (hA9 _ mfL_16) (fun _ h9 => h9) rfl hin rfl (by decide +kernel) rfl rfl (Nat.le_of_ble_eq_true rfl) dL_init_21 (fun H locs hP hD hS => ?_)
  replace hP : va_P D CLS ((wx 33 ad4 ce4).set 0 (ad4 0, .inr (2, [.ref (ad4 1), .ref (ad4 2), .null, .int 0, .int 0]))) H := hP
  replace hD : va_D A ((wx 33 ad4 ce4).set 0 (ad4 0, .inr (2, [.ref (ad4 1), .ref (ad4 2), .null, .int 0, .int 0]))) := hD
  obtain ⟨ce5, hc5⟩ : ∃ z9, z9 = va_up ce4 0 (.inr (2, [.ref (ad4 1), .ref (ad4 2), .null, .int 0, .int 0])) := ⟨_, rfl⟩
  rw [wx_set (by omega), ← hc5] at hP hD
  have fc5 : ∀ j, j < 0 → ce5 j = ce j := fun j h => (by rw [hc5, va_up_ne _ _ (by omega)] : ce5 j = ce4 j).trans (fc4 j h)
  have q5_1 : ce5 1 = .inl (cI, 4000, .inl (fun _ => 0)) := by rw [hc5, va_up_ne _ _ (by omega), q4_1]
  have qw5 : ce5 0 = .inr (2, [.ref (ad4 1), .ref (ad4 2), .null, .int 0, .int 0]) := by rw [hc5, va_up_self]
  have ec5 : ∀ j, j ≠ 0 → ce5 j = ce4 j := fun j h => by rw [hc5, va_up_ne _ _ h]
  clear hc5
  have xt5 : TZ cI cO ad4 ce5 := xt.cg (fun _ _ _ => rfl) (fun j q1 q2 => ec5 j (by omega))
  refine lv_aload_n hx hb dL_init_24 rfl (lv_at hl 0 rfl) ?_
  refine lv_sipush (v := nI 512) hx hb dL_init_25 (by decide +kernel) ?_
  refine ix_newI (n := 512) hx hb (hA9 _ ma_int) hK hP hD hS hA (by omega) (Nat.le_of_ble_eq_true rfl) (Nat.le_of_ble_eq_true rfl) dL_init_28 (fun q H hP hD hS => ?_)
  obtain ⟨ad6, hd6⟩ : ∃ z9, z9 = va_up ad4 33 q := ⟨_, rfl⟩
  obtain ⟨ce6, hc6⟩ : ∃ z9, z9 = va_up ce5 33 (.inl (cI, 512, .inl (fun _ => 0))) := ⟨_, rfl⟩
  rw [← hd6, ← hc6] at hP hD
  have eq6 : q = ad6 33 := by rw [hd6, va_up_self]
  have ed6 : ∀ j, j < 33 → ad4 j = ad6 j := fun j h => by rw [hd6, va_up_ne _ _ (by omega)]
  have ec6 : ∀ j, j < 33 → ce6 j = ce5 j := fun j h => by rw [hc6, va_up_ne _ _ (by omega)]
  have fa6 : ∀ j, j < 1 → ad6 j = ad j := fun j h => (ed6 j (by omega)).symm.trans (fa4 j h)
  have fc6 : ∀ j, j < 0 → ce6 j = ce j := fun j h => (ec6 j (by omega)).trans (fc5 j h)
  have q6_0 : ce6 0 = .inr (2, [.ref (ad6 1), .ref (ad6 2), .null, .int 0, .int 0]) := by rw [ec6 0 (by omega), qw5, ed6 1 (by omega), ed6 2 (by omega)]
  have q6_1 : ce6 1 = .inl (cI, 4000, .inl (fun _ => 0)) := by rw [ec6 1 (by omega), q5_1]
  have qn6 : ce6 33 = .inl (cI, 512, .inl (fun _ => 0)) := by rw [hc6, va_up_self]
  replace hl : lv_has ls 1 [(0, .ref (ad6 0))] := by rw [← ed6 0 (by omega)]; exact hl
  refine W.eq (g2 := F0 m 30 ls [.ref (ad6 33), .ref (ad6 0)]) (by rw [eq6, ed6 0 (by omega)]) ?_
  clear hd6 hc6
  have xt6 : TZ cI cO ad6 ce6 := xt5.cg (fun j q1 q2 => (ed6 j (by omega)).symm) (fun j q1 q2 => ec6 j (by omega))
  refine va_putF (D := D) (ci := 2) (v := .ref (ad6 33)) (ty := .array .int) (C := RL) (T := TL) (N := 5) hx hb hA9 inL tyL tyL_ok nmL hown hK hP hD hS 0 (wx_at (by omega) q6_0) rfl 2 (by decide) (hA9 _ mfL_20) (fun _ h9 => h9) rfl hin rfl (by decide +kernel) rfl rfl (Nat.le_of_ble_eq_true rfl) dL_init_30 (fun H locs hP hD hS => ?_)
  replace hP : va_P D CLS ((wx 34 ad6 ce6).set 0 (ad6 0, .inr (2, [.ref (ad6 1), .ref (ad6 2), .ref (ad6 33), .int 0, .int 0]))) H := hP
  replace hD : va_D A ((wx 34 ad6 ce6).set 0 (ad6 0, .inr (2, [.ref (ad6 1), .ref (ad6 2), .ref (ad6 33), .int 0, .int 0]))) := hD
  obtain ⟨ce7, hc7⟩ : ∃ z9, z9 = va_up ce6 0 (.inr (2, [.ref (ad6 1), .ref (ad6 2), .ref (ad6 33), .int 0, .int 0])) := ⟨_, rfl⟩
  rw [wx_set (by omega), ← hc7] at hP hD
  have fc7 : ∀ j, j < 0 → ce7 j = ce j := fun j h => (by rw [hc7, va_up_ne _ _ (by omega)] : ce7 j = ce6 j).trans (fc6 j h)
  have q7_1 : ce7 1 = .inl (cI, 4000, .inl (fun _ => 0)) := by rw [hc7, va_up_ne _ _ (by omega), q6_1]
  have q7_33 : ce7 33 = .inl (cI, 512, .inl (fun _ => 0)) := by rw [hc7, va_up_ne _ _ (by omega), qn6]
  have qw7 : ce7 0 = .inr (2, [.ref (ad6 1), .ref (ad6 2), .ref (ad6 33), .int 0, .int 0]) := by rw [hc7, va_up_self]
  have ec7 : ∀ j, j ≠ 0 → ce7 j = ce6 j := fun j h => by rw [hc7, va_up_ne _ _ h]
  clear hc7
  have xt7 : TZ cI cO ad6 ce7 := xt6.cg (fun _ _ _ => rfl) (fun j q1 q2 => ec7 j (by omega))
  refine lv_aload_n hx hb dL_init_33 rfl (lv_at hl 0 rfl) ?_
  refine lv_iconst (v := nI 0) hx hb dL_init_34 (by decide +kernel) ?_
  refine va_put (D := D) (ci := 2) (v := .int (nI 0)) (ty := .int) (C := RL) (T := TL) (N := 5) hx hb hA9 inL tyL tyL_ok nmL hown hK hP hD hS 0 (wx_at (by omega) qw7) rfl 3 (by decide) (hA9 _ mfL_23) (fun _ h9 => h9) rfl (by decide +kernel) rfl rfl (Nat.le_of_ble_eq_true rfl) dL_init_35 (fun H locs hP hD hS => ?_)
  replace hP : va_P D CLS ((wx 34 ad6 ce7).set 0 (ad6 0, .inr (2, [.ref (ad6 1), .ref (ad6 2), .ref (ad6 33), .int (nI 0), .int 0]))) H := hP
  replace hD : va_D A ((wx 34 ad6 ce7).set 0 (ad6 0, .inr (2, [.ref (ad6 1), .ref (ad6 2), .ref (ad6 33), .int (nI 0), .int 0]))) := hD
  obtain ⟨ce8, hc8⟩ : ∃ z9, z9 = va_up ce7 0 (.inr (2, [.ref (ad6 1), .ref (ad6 2), .ref (ad6 33), .int (nI 0), .int 0])) := ⟨_, rfl⟩
  rw [wx_set (by omega), ← hc8] at hP hD
  have fc8 : ∀ j, j < 0 → ce8 j = ce j := fun j h => (by rw [hc8, va_up_ne _ _ (by omega)] : ce8 j = ce7 j).trans (fc7 j h)
  have q8_1 : ce8 1 = .inl (cI, 4000, .inl (fun _ => 0)) := by rw [hc8, va_up_ne _ _ (by omega), q7_1]
  have q8_33 : ce8 33 = .inl (cI, 512, .inl (fun _ => 0)) := by rw [hc8, va_up_ne _ _ (by omega), q7_33]
  have qw8 : ce8 0 = .inr (2, [.ref (ad6 1), .ref (ad6 2), .ref (ad6 33), .int (nI 0), .int 0]) := by rw [hc8, va_up_self]
  have ec8 : ∀ j, j ≠ 0 → ce8 j = ce7 j := fun j h => by rw [hc8, va_up_ne _ _ h]
  clear hc8
  have xt8 : TZ cI cO ad6 ce8 := xt7.cg (fun _ _ _ => rfl) (fun j q1 q2 => ec8 j (by omega))
  refine lv_aload_n hx hb dL_init_38 rfl (lv_at hl 0 rfl) ?_
  refine lv_iconst (v := nI 0) hx hb dL_init_39 (by decide +kernel) ?_
  refine va_put (D := D) (ci := 2) (v := .int (nI 0)) (ty := .int) (C := RL) (T := TL) (N := 5) hx hb hA9 inL tyL tyL_ok nmL hown hK hP hD hS 0 (wx_at (by omega) qw8) rfl 4 (by decide) (hA9 _ mfL_27) (fun _ h9 => h9) rfl (by decide +kernel) rfl rfl (Nat.le_of_ble_eq_true rfl) dL_init_40 (fun H locs hP hD hS => ?_)
  replace hP : va_P D CLS ((wx 34 ad6 ce8).set 0 (ad6 0, .inr (2, [.ref (ad6 1), .ref (ad6 2), .ref (ad6 33), .int (nI 0), .int (nI 0)]))) H := hP
  replace hD : va_D A ((wx 34 ad6 ce8).set 0 (ad6 0, .inr (2, [.ref (ad6 1), .ref (ad6 2), .ref (ad6 33), .int (nI 0), .int (nI 0)]))) := hD
  obtain ⟨ce9, hc9⟩ : ∃ z9, z9 = va_up ce8 0 (.inr (2, [.ref (ad6 1), .ref (ad6 2), .ref (ad6 33), .int (nI 0), .int (nI 0)])) := ⟨_, rfl⟩
  rw [wx_set (by omega), ← hc9] at hP hD
  have fc9 : ∀ j, j < 0 → ce9 j = ce j := fun j h => (by rw [hc9, va_up_ne _ _ (by omega)] : ce9 j = ce8 j).trans (fc8 j h)
  have q9_1 : ce9 1 = .inl (cI, 4000, .inl (fun _ => 0)) := by rw [hc9, va_up_ne _ _ (by omega), q8_1]
  have q9_33 : ce9 33 = .inl (cI, 512, .inl (fun _ => 0)) := by rw [hc9, va_up_ne _ _ (by omega), q8_33]
  have qw9 : ce9 0 = .inr (2, [.ref (ad6 1), .ref (ad6 2), .ref (ad6 33), .int (nI 0), .int (nI 0)]) := by rw [hc9, va_up_self]
  have ec9 : ∀ j, j ≠ 0 → ce9 j = ce8 j := fun j h => by rw [hc9, va_up_ne _ _ h]
  clear hc9
  have xt9 : TZ cI cO ad6 ce9 := xt8.cg (fun _ _ _ => rfl) (fun j q1 q2 => ec9 j (by omega))
  exact W.vret hx hb hr (fun t ht hW => ⟨⟨(ad6, ce9), rfl, ⟨fa6 0 (by omega), qw9, q9_1, xt9, q9_33⟩, by rw [ht]; exact hP, va_K.moved hW.alike hK, hD⟩, hS.F ht⟩) hS.2.2 dL_init_43

set_option maxHeartbeats 4000000 in
set_option maxRecDepth 100000 in
theorem c_M_init (l : Launch) (D : va_G) (cI cO cJ : ClassId)  (ad : Nat → Nat) (ce : Nat → va_E) (sz : Nat) (h0 : ce 34 = .inr (3, [.int 0, .null, .null, .null, .null, .null, .int 0, .int 0, .int 0])) : Met l yM_init (.code yM_init bM_init 1 none :: WA) ({ frames := 1, cells := 5, slots := 9536, locals := 40 }) (PM D (TY cI cO cJ) 35 ad ce sz [.ref (ad 34)]) (va_Qv (fun u : (Nat → Nat) × (Nat → va_E) => (∀ j, j < 35 → u.1 j = ad j) ∧ (∀ j, j < 34 → u.2 j = ce j) ∧ u.2 34 = .inr (3, [.int (nI 0), .ref (u.1 35), .ref (u.1 36), .ref (u.1 37), .ref (u.1 38), .ref (u.1 39), .int (nI 0), .int (nI 0), .int (nI 0)]) ∧ u.2 35 = .inl (cI, 4000, .inl (fun _ => 0)) ∧ u.2 36 = .inl (cI, 4000, .inl (fun _ => 0)) ∧ u.2 37 = .inl (cI, 512, .inl (fun _ => 0)) ∧ u.2 38 = .inl (cI, 512, .inl (fun _ => 0)) ∧ u.2 39 = .inl (cI, 512, .inl (fun _ => 0))) (BG D (TY cI cO cJ) 40 (AW 35 ad sz)) (AW 35 ad sz)) 5 9536 (AW 35 ad sz) := by
  refine Met.ofW (cc := bM_init) (maxL := 1) (ret := none) (by decide) rfl ?_
  intro p e s m args below meth c s₁ B hml hv
  obtain ⟨rfl, hsz, hP, hK, hD0⟩ := hv
  have hx := B.exec
  have hb := B.bytes
  have hr := B.returns
  have hA9 : ∀ w ∈ WA, w.before _ s = true := fun w h => atoms_spec (ws := .code yM_init bM_init 1 none :: WA) B.pre w (List.mem_cons_of_mem _ h)
  have hown : s.vm.findClass RM = some m.cls := findClass_of_methodNamed B.named
  have hlocks := B.notSynchronized
  have hin : meth.name = "<init>" := (name_of_methodNamed B.named B.method).1
  subst hsz
  have hD := aw_D (sz := s.heap.size) hD0
  generalize hAe : AW 35 ad s.heap.size = A at hD ⊢
  have hA : ∀ q, s.heap.size ≤ q → A q := fun q h => by rw [← hAe]; exact Or.inr h
  clear hAe hD0
  have hl := lv_entry ([.ref (ad 34)]) (n := 1) (Nat.le_of_ble_eq_true rfl)
  rw [lg_entry_eq]
  generalize (lg_sl ([.ref (ad 34)]) ++ List.replicate (1 - (lg_sl ([.ref (ad 34)])).length) Slot.unset).toArray = ls at hl ⊢
  have hl : lv_has ls 1 [(0, .ref (ad 34))] := hl
  refine st0 (A := A) (fun H locs hS hH => ?_)
  rw [← hH] at hP
  clear hH
  refine lv_aload_n hx hb dM_init_0 rfl (lv_at hl 0 rfl) ?_
  refine W.objInit hx hb hown (hA9 _ mlM_1) (hA9 _ miobjectInit) (hA9 _ mkobj) rfl (by rw [hml]; exact hl.1) rfl dM_init_1 (Nat.le_of_ble_eq_true rfl) (Nat.le_of_ble_eq_true rfl) ?_
  refine W.eq (g2 := F0 m 4 ls []) rfl ?_
  refine lv_aload_n hx hb dM_init_4 rfl (lv_at hl 0 rfl) ?_
  refine lv_iconst (v := nI 0) hx hb dM_init_5 (by decide +kernel) ?_
  refine va_put (D := D) (ci := 3) (v := .int (nI 0)) (ty := .int) (C := RM) (T := TM) (N := 9) hx hb hA9 inM tyM tyM_ok nmM hown hK hP hD hS 34 (wx_at (by omega) h0) rfl 0 (by decide) (hA9 _ mfM_7) (fun _ h9 => h9) rfl (by decide +kernel) rfl rfl (Nat.le_of_ble_eq_true rfl) dM_init_6 (fun H locs hP hD hS => ?_)
  replace hP : va_P D CLS ((wx 35 ad ce).set 34 (ad 34, .inr (3, [.int (nI 0), .null, .null, .null, .null, .null, .int 0, .int 0, .int 0]))) H := hP
  replace hD : va_D A ((wx 35 ad ce).set 34 (ad 34, .inr (3, [.int (nI 0), .null, .null, .null, .null, .null, .int 0, .int 0, .int 0]))) := hD
  obtain ⟨ce1, hc1⟩ : ∃ z9, z9 = va_up ce 34 (.inr (3, [.int (nI 0), .null, .null, .null, .null, .null, .int 0, .int 0, .int 0])) := ⟨_, rfl⟩
  rw [wx_set (by omega), ← hc1] at hP hD
  have fc1 : ∀ j, j < 34 → ce1 j = ce j := fun j h => (by rw [hc1, va_up_ne _ _ (by omega)] : ce1 j = ce j).trans ((fun _ _ => rfl) j h)
  have qw1 : ce1 34 = .inr (3, [.int (nI 0), .null, .null, .null, .null, .null, .int 0, .int 0, .int 0]) := by rw [hc1, va_up_self]
  have ec1 : ∀ j, j ≠ 34 → ce1 j = ce j := fun j h => by rw [hc1, va_up_ne _ _ h]
  clear hc1
  refine lv_aload_n hx hb dM_init_9 rfl (lv_at hl 0 rfl) ?_
  refine lv_sipush (v := nI 4000) hx hb dM_init_10 (by decide +kernel) ?_
  refine ix_newI (n := 4000) hx hb (hA9 _ ma_int) hK hP hD hS hA (by omega) (Nat.le_of_ble_eq_true rfl) (Nat.le_of_ble_eq_true rfl) dM_init_13 (fun q H hP hD hS => ?_)
  obtain ⟨ad2, hd2⟩ : ∃ z9, z9 = va_up ad 35 q := ⟨_, rfl⟩
  obtain ⟨ce2, hc2⟩ : ∃ z9, z9 = va_up ce1 35 (.inl (cI, 4000, .inl (fun _ => 0))) := ⟨_, rfl⟩
  rw [← hd2, ← hc2] at hP hD
  have eq2 : q = ad2 35 := by rw [hd2, va_up_self]
  have ed2 : ∀ j, j < 35 → ad j = ad2 j := fun j h => by rw [hd2, va_up_ne _ _ (by omega)]
  have ec2 : ∀ j, j < 35 → ce2 j = ce1 j := fun j h => by rw [hc2, va_up_ne _ _ (by omega)]
  have fa2 : ∀ j, j < 35 → ad2 j = ad j := fun j h => (ed2 j (by omega)).symm.trans ((fun _ _ => rfl) j h)
  have fc2 : ∀ j, j < 34 → ce2 j = ce j := fun j h => (ec2 j (by omega)).trans (fc1 j h)
  have q2_34 : ce2 34 = .inr (3, [.int (nI 0), .null, .null, .null, .null, .null, .int 0, .int 0, .int 0]) := by rw [ec2 34 (by omega), qw1]
  have qn2 : ce2 35 = .inl (cI, 4000, .inl (fun _ => 0)) := by rw [hc2, va_up_self]
  replace hl : lv_has ls 1 [(0, .ref (ad2 34))] := by rw [← ed2 34 (by omega)]; exact hl
  refine W.eq (g2 := F0 m 15 ls [.ref (ad2 35), .ref (ad2 34)]) (by rw [eq2, ed2 34 (by omega)]) ?_
  clear hd2 hc2
  refine va_putF (D := D) (ci := 3) (v := .ref (ad2 35)) (ty := .array .int) (C := RM) (T := TM) (N := 9) hx hb hA9 inM tyM tyM_ok nmM hown hK hP hD hS 34 (wx_at (by omega) q2_34) rfl 1 (by decide) (hA9 _ mfM_13) (fun _ h9 => h9) rfl hin rfl (by decide +kernel) rfl rfl (Nat.le_of_ble_eq_true rfl) dM_init_15 (fun H locs hP hD hS => ?_)
  replace hP : va_P D CLS ((wx 36 ad2 ce2).set 34 (ad2 34, .inr (3, [.int (nI 0), .ref (ad2 35), .null, .null, .null, .null, .int 0, .int 0, .int 0]))) H := hP
  replace hD : va_D A ((wx 36 ad2 ce2).set 34 (ad2 34, .inr (3, [.int (nI 0), .ref (ad2 35), .null, .null, .null, .null, .int 0, .int 0, .int 0]))) := hD
  obtain ⟨ce3, hc3⟩ : ∃ z9, z9 = va_up ce2 34 (.inr (3, [.int (nI 0), .ref (ad2 35), .null, .null, .null, .null, .int 0, .int 0, .int 0])) := ⟨_, rfl⟩
  rw [wx_set (by omega), ← hc3] at hP hD
  have fc3 : ∀ j, j < 34 → ce3 j = ce j := fun j h => (by rw [hc3, va_up_ne _ _ (by omega)] : ce3 j = ce2 j).trans (fc2 j h)
  have q3_35 : ce3 35 = .inl (cI, 4000, .inl (fun _ => 0)) := by rw [hc3, va_up_ne _ _ (by omega), qn2]
  have qw3 : ce3 34 = .inr (3, [.int (nI 0), .ref (ad2 35), .null, .null, .null, .null, .int 0, .int 0, .int 0]) := by rw [hc3, va_up_self]
  have ec3 : ∀ j, j ≠ 34 → ce3 j = ce2 j := fun j h => by rw [hc3, va_up_ne _ _ h]
  clear hc3
  refine lv_aload_n hx hb dM_init_18 rfl (lv_at hl 0 rfl) ?_
  refine lv_sipush (v := nI 4000) hx hb dM_init_19 (by decide +kernel) ?_
  refine ix_newI (n := 4000) hx hb (hA9 _ ma_int) hK hP hD hS hA (by omega) (Nat.le_of_ble_eq_true rfl) (Nat.le_of_ble_eq_true rfl) dM_init_22 (fun q H hP hD hS => ?_)
  obtain ⟨ad4, hd4⟩ : ∃ z9, z9 = va_up ad2 36 q := ⟨_, rfl⟩
  obtain ⟨ce4, hc4⟩ : ∃ z9, z9 = va_up ce3 36 (.inl (cI, 4000, .inl (fun _ => 0))) := ⟨_, rfl⟩
  rw [← hd4, ← hc4] at hP hD
  have eq4 : q = ad4 36 := by rw [hd4, va_up_self]
  have ed4 : ∀ j, j < 36 → ad2 j = ad4 j := fun j h => by rw [hd4, va_up_ne _ _ (by omega)]
  have ec4 : ∀ j, j < 36 → ce4 j = ce3 j := fun j h => by rw [hc4, va_up_ne _ _ (by omega)]
  have fa4 : ∀ j, j < 35 → ad4 j = ad j := fun j h => (ed4 j (by omega)).symm.trans (fa2 j h)
  have fc4 : ∀ j, j < 34 → ce4 j = ce j := fun j h => (ec4 j (by omega)).trans (fc3 j h)
  have q4_34 : ce4 34 = .inr (3, [.int (nI 0), .ref (ad4 35), .null, .null, .null, .null, .int 0, .int 0, .int 0]) := by rw [ec4 34 (by omega), qw3, ed4 35 (by omega)]
  have q4_35 : ce4 35 = .inl (cI, 4000, .inl (fun _ => 0)) := by rw [ec4 35 (by omega), q3_35]
  have qn4 : ce4 36 = .inl (cI, 4000, .inl (fun _ => 0)) := by rw [hc4, va_up_self]
  replace hl : lv_has ls 1 [(0, .ref (ad4 34))] := by rw [← ed4 34 (by omega)]; exact hl
  refine W.eq (g2 := F0 m 24 ls [.ref (ad4 36), .ref (ad4 34)]) (by rw [eq4, ed4 34 (by omega)]) ?_
  clear hd4 hc4
  refine va_putF (D := D) (ci := 3) (v := .ref (ad4 36)) (ty := .array .int) (C := RM) (T := TM) (N := 9) hx hb hA9 inM tyM tyM_ok nmM hown hK hP hD hS 34 (wx_at (by omega) q4_34) rfl 2 (by decide) (hA9 _ mfM_17) (fun _ h9 => h9) rfl hin rfl (by decide +kernel) rfl rfl (Nat.le_of_ble_eq_true rfl) dM_init_24 (fun H locs hP hD hS => ?_)
  replace hP : va_P D CLS ((wx 37 ad4 ce4).set 34 (ad4 34, .inr (3, [.int (nI 0), .ref (ad4 35), .ref (ad4 36), .null, .null, .null, .int 0, .int 0, .int 0]))) H := hP
  replace hD : va_D A ((wx 37 ad4 ce4).set 34 (ad4 34, .inr (3, [.int (nI 0), .ref (ad4 35), .ref (ad4 36), .null, .null, .null, .int 0, .int 0, .int 0]))) := hD
  obtain ⟨ce5, hc5⟩ : ∃ z9, z9 = va_up ce4 34 (.inr (3, [.int (nI 0), .ref (ad4 35), .ref (ad4 36), .null, .null, .null, .int 0, .int 0, .int 0])) := ⟨_, rfl⟩
  rw [wx_set (by omega), ← hc5] at hP hD
  have fc5 : ∀ j, j < 34 → ce5 j = ce j := fun j h => (by rw [hc5, va_up_ne _ _ (by omega)] : ce5 j = ce4 j).trans (fc4 j h)
  have q5_35 : ce5 35 = .inl (cI, 4000, .inl (fun _ => 0)) := by rw [hc5, va_up_ne _ _ (by omega), q4_35]
  have q5_36 : ce5 36 = .inl (cI, 4000, .inl (fun _ => 0)) := by rw [hc5, va_up_ne _ _ (by omega), qn4]
  have qw5 : ce5 34 = .inr (3, [.int (nI 0), .ref (ad4 35), .ref (ad4 36), .null, .null, .null, .int 0, .int 0, .int 0]) := by rw [hc5, va_up_self]
  have ec5 : ∀ j, j ≠ 34 → ce5 j = ce4 j := fun j h => by rw [hc5, va_up_ne _ _ h]
  clear hc5
  refine lv_aload_n hx hb dM_init_27 rfl (lv_at hl 0 rfl) ?_
  refine lv_sipush (v := nI 512) hx hb dM_init_28 (by decide +kernel) ?_
  refine ix_newI (n := 512) hx hb (hA9 _ ma_int) hK hP hD hS hA (by omega) (Nat.le_of_ble_eq_true rfl) (Nat.le_of_ble_eq_true rfl) dM_init_31 (fun q H hP hD hS => ?_)
  obtain ⟨ad6, hd6⟩ : ∃ z9, z9 = va_up ad4 37 q := ⟨_, rfl⟩
  obtain ⟨ce6, hc6⟩ : ∃ z9, z9 = va_up ce5 37 (.inl (cI, 512, .inl (fun _ => 0))) := ⟨_, rfl⟩
  rw [← hd6, ← hc6] at hP hD
  have eq6 : q = ad6 37 := by rw [hd6, va_up_self]
  have ed6 : ∀ j, j < 37 → ad4 j = ad6 j := fun j h => by rw [hd6, va_up_ne _ _ (by omega)]
  have ec6 : ∀ j, j < 37 → ce6 j = ce5 j := fun j h => by rw [hc6, va_up_ne _ _ (by omega)]
  have fa6 : ∀ j, j < 35 → ad6 j = ad j := fun j h => (ed6 j (by omega)).symm.trans (fa4 j h)
  have fc6 : ∀ j, j < 34 → ce6 j = ce j := fun j h => (ec6 j (by omega)).trans (fc5 j h)
  have q6_34 : ce6 34 = .inr (3, [.int (nI 0), .ref (ad6 35), .ref (ad6 36), .null, .null, .null, .int 0, .int 0, .int 0]) := by rw [ec6 34 (by omega), qw5, ed6 35 (by omega), ed6 36 (by omega)]
  have q6_35 : ce6 35 = .inl (cI, 4000, .inl (fun _ => 0)) := by rw [ec6 35 (by omega), q5_35]
  have q6_36 : ce6 36 = .inl (cI, 4000, .inl (fun _ => 0)) := by rw [ec6 36 (by omega), q5_36]
  have qn6 : ce6 37 = .inl (cI, 512, .inl (fun _ => 0)) := by rw [hc6, va_up_self]
  replace hl : lv_has ls 1 [(0, .ref (ad6 34))] := by rw [← ed6 34 (by omega)]; exact hl
  refine W.eq (g2 := F0 m 33 ls [.ref (ad6 37), .ref (ad6 34)]) (by rw [eq6, ed6 34 (by omega)]) ?_
  clear hd6 hc6
  refine va_putF (D := D) (ci := 3) (v := .ref (ad6 37)) (ty := .array .int) (C := RM) (T := TM) (N := 9) hx hb hA9 inM tyM tyM_ok nmM hown hK hP hD hS 34 (wx_at (by omega) q6_34) rfl 3 (by decide) (hA9 _ mfM_20) (fun _ h9 => h9) rfl hin rfl (by decide +kernel) rfl rfl (Nat.le_of_ble_eq_true rfl) dM_init_33 (fun H locs hP hD hS => ?_)
  replace hP : va_P D CLS ((wx 38 ad6 ce6).set 34 (ad6 34, .inr (3, [.int (nI 0), .ref (ad6 35), .ref (ad6 36), .ref (ad6 37), .null, .null, .int 0, .int 0, .int 0]))) H := hP
  replace hD : va_D A ((wx 38 ad6 ce6).set 34 (ad6 34, .inr (3, [.int (nI 0), .ref (ad6 35), .ref (ad6 36), .ref (ad6 37), .null, .null, .int 0, .int 0, .int 0]))) := hD
  obtain ⟨ce7, hc7⟩ : ∃ z9, z9 = va_up ce6 34 (.inr (3, [.int (nI 0), .ref (ad6 35), .ref (ad6 36), .ref (ad6 37), .null, .null, .int 0, .int 0, .int 0])) := ⟨_, rfl⟩
  rw [wx_set (by omega), ← hc7] at hP hD
  have fc7 : ∀ j, j < 34 → ce7 j = ce j := fun j h => (by rw [hc7, va_up_ne _ _ (by omega)] : ce7 j = ce6 j).trans (fc6 j h)
  have q7_35 : ce7 35 = .inl (cI, 4000, .inl (fun _ => 0)) := by rw [hc7, va_up_ne _ _ (by omega), q6_35]
  have q7_36 : ce7 36 = .inl (cI, 4000, .inl (fun _ => 0)) := by rw [hc7, va_up_ne _ _ (by omega), q6_36]
  have q7_37 : ce7 37 = .inl (cI, 512, .inl (fun _ => 0)) := by rw [hc7, va_up_ne _ _ (by omega), qn6]
  have qw7 : ce7 34 = .inr (3, [.int (nI 0), .ref (ad6 35), .ref (ad6 36), .ref (ad6 37), .null, .null, .int 0, .int 0, .int 0]) := by rw [hc7, va_up_self]
  have ec7 : ∀ j, j ≠ 34 → ce7 j = ce6 j := fun j h => by rw [hc7, va_up_ne _ _ h]
  clear hc7
  refine lv_aload_n hx hb dM_init_36 rfl (lv_at hl 0 rfl) ?_
  refine lv_sipush (v := nI 512) hx hb dM_init_37 (by decide +kernel) ?_
  refine ix_newI (n := 512) hx hb (hA9 _ ma_int) hK hP hD hS hA (by omega) (Nat.le_of_ble_eq_true rfl) (Nat.le_of_ble_eq_true rfl) dM_init_40 (fun q H hP hD hS => ?_)
  obtain ⟨ad8, hd8⟩ : ∃ z9, z9 = va_up ad6 38 q := ⟨_, rfl⟩
  obtain ⟨ce8, hc8⟩ : ∃ z9, z9 = va_up ce7 38 (.inl (cI, 512, .inl (fun _ => 0))) := ⟨_, rfl⟩
  rw [← hd8, ← hc8] at hP hD
  have eq8 : q = ad8 38 := by rw [hd8, va_up_self]
  have ed8 : ∀ j, j < 38 → ad6 j = ad8 j := fun j h => by rw [hd8, va_up_ne _ _ (by omega)]
  have ec8 : ∀ j, j < 38 → ce8 j = ce7 j := fun j h => by rw [hc8, va_up_ne _ _ (by omega)]
  have fa8 : ∀ j, j < 35 → ad8 j = ad j := fun j h => (ed8 j (by omega)).symm.trans (fa6 j h)
  have fc8 : ∀ j, j < 34 → ce8 j = ce j := fun j h => (ec8 j (by omega)).trans (fc7 j h)
  have q8_34 : ce8 34 = .inr (3, [.int (nI 0), .ref (ad8 35), .ref (ad8 36), .ref (ad8 37), .null, .null, .int 0, .int 0, .int 0]) := by rw [ec8 34 (by omega), qw7, ed8 35 (by omega), ed8 36 (by omega), ed8 37 (by omega)]
  have q8_35 : ce8 35 = .inl (cI, 4000, .inl (fun _ => 0)) := by rw [ec8 35 (by omega), q7_35]
  have q8_36 : ce8 36 = .inl (cI, 4000, .inl (fun _ => 0)) := by rw [ec8 36 (by omega), q7_36]
  have q8_37 : ce8 37 = .inl (cI, 512, .inl (fun _ => 0)) := by rw [ec8 37 (by omega), q7_37]
  have qn8 : ce8 38 = .inl (cI, 512, .inl (fun _ => 0)) := by rw [hc8, va_up_self]
  replace hl : lv_has ls 1 [(0, .ref (ad8 34))] := by rw [← ed8 34 (by omega)]; exact hl
  refine W.eq (g2 := F0 m 42 ls [.ref (ad8 38), .ref (ad8 34)]) (by rw [eq8, ed8 34 (by omega)]) ?_
  clear hd8 hc8
  refine va_putF (D := D) (ci := 3) (v := .ref (ad8 38)) (ty := .array .int) (C := RM) (T := TM) (N := 9) hx hb hA9 inM tyM tyM_ok nmM hown hK hP hD hS 34 (wx_at (by omega) q8_34) rfl 4 (by decide) (hA9 _ mfM_23) (fun _ h9 => h9) rfl hin rfl (by decide +kernel) rfl rfl (Nat.le_of_ble_eq_true rfl) dM_init_42 (fun H locs hP hD hS => ?_)
  replace hP : va_P D CLS ((wx 39 ad8 ce8).set 34 (ad8 34, .inr (3, [.int (nI 0), .ref (ad8 35), .ref (ad8 36), .ref (ad8 37), .ref (ad8 38), .null, .int 0, .int 0, .int 0]))) H := hP
  replace hD : va_D A ((wx 39 ad8 ce8).set 34 (ad8 34, .inr (3, [.int (nI 0), .ref (ad8 35), .ref (ad8 36), .ref (ad8 37), .ref (ad8 38), .null, .int 0, .int 0, .int 0]))) := hD
  obtain ⟨ce9, hc9⟩ : ∃ z9, z9 = va_up ce8 34 (.inr (3, [.int (nI 0), .ref (ad8 35), .ref (ad8 36), .ref (ad8 37), .ref (ad8 38), .null, .int 0, .int 0, .int 0])) := ⟨_, rfl⟩
  rw [wx_set (by omega), ← hc9] at hP hD
  have fc9 : ∀ j, j < 34 → ce9 j = ce j := fun j h => (by rw [hc9, va_up_ne _ _ (by omega)] : ce9 j = ce8 j).trans (fc8 j h)
  have q9_35 : ce9 35 = .inl (cI, 4000, .inl (fun _ => 0)) := by rw [hc9, va_up_ne _ _ (by omega), q8_35]
  have q9_36 : ce9 36 = .inl (cI, 4000, .inl (fun _ => 0)) := by rw [hc9, va_up_ne _ _ (by omega), q8_36]
  have q9_37 : ce9 37 = .inl (cI, 512, .inl (fun _ => 0)) := by rw [hc9, va_up_ne _ _ (by omega), q8_37]
  have q9_38 : ce9 38 = .inl (cI, 512, .inl (fun _ => 0)) := by rw [hc9, va_up_ne _ _ (by omega), qn8]
  have qw9 : ce9 34 = .inr (3, [.int (nI 0), .ref (ad8 35), .ref (ad8 36), .ref (ad8 37), .ref (ad8 38), .null, .int 0, .int 0, .int 0]) := by rw [hc9, va_up_self]
  have ec9 : ∀ j, j ≠ 34 → ce9 j = ce8 j := fun j h => by rw [hc9, va_up_ne _ _ h]
  clear hc9
  refine lv_aload_n hx hb dM_init_45 rfl (lv_at hl 0 rfl) ?_
  refine lv_sipush (v := nI 512) hx hb dM_init_46 (by decide +kernel) ?_
  refine ix_newI (n := 512) hx hb (hA9 _ ma_int) hK hP hD hS hA (by omega) (Nat.le_of_ble_eq_true rfl) (Nat.le_of_ble_eq_true rfl) dM_init_49 (fun q H hP hD hS => ?_)
  obtain ⟨ad10, hd10⟩ : ∃ z9, z9 = va_up ad8 39 q := ⟨_, rfl⟩
  obtain ⟨ce10, hc10⟩ : ∃ z9, z9 = va_up ce9 39 (.inl (cI, 512, .inl (fun _ => 0))) := ⟨_, rfl⟩
  rw [← hd10, ← hc10] at hP hD
  have eq10 : q = ad10 39 := by rw [hd10, va_up_self]
  have ed10 : ∀ j, j < 39 → ad8 j = ad10 j := fun j h => by rw [hd10, va_up_ne _ _ (by omega)]
  have ec10 : ∀ j, j < 39 → ce10 j = ce9 j := fun j h => by rw [hc10, va_up_ne _ _ (by omega)]
  have fa10 : ∀ j, j < 35 → ad10 j = ad j := fun j h => (ed10 j (by omega)).symm.trans (fa8 j h)
  have fc10 : ∀ j, j < 34 → ce10 j = ce j := fun j h => (ec10 j (by omega)).trans (fc9 j h)
  have q10_34 : ce10 34 = .inr (3, [.int (nI 0), .ref (ad10 35), .ref (ad10 36), .ref (ad10 37), .ref (ad10 38), .null, .int 0, .int 0, .int 0]) := by rw [ec10 34 (by omega), qw9, ed10 35 (by omega), ed10 36 (by omega), ed10 37 (by omega), ed10 38 (by omega)]
  have q10_35 : ce10 35 = .inl (cI, 4000, .inl (fun _ => 0)) := by rw [ec10 35 (by omega), q9_35]
  have q10_36 : ce10 36 = .inl (cI, 4000, .inl (fun _ => 0)) := by rw [ec10 36 (by omega), q9_36]
  have q10_37 : ce10 37 = .inl (cI, 512, .inl (fun _ => 0)) := by rw [ec10 37 (by omega), q9_37]
  have q10_38 : ce10 38 = .inl (cI, 512, .inl (fun _ => 0)) := by rw [ec10 38 (by omega), q9_38]
  have qn10 : ce10 39 = .inl (cI, 512, .inl (fun _ => 0)) := by rw [hc10, va_up_self]
  replace hl : lv_has ls 1 [(0, .ref (ad10 34))] := by rw [← ed10 34 (by omega)]; exact hl
  refine W.eq (g2 := F0 m 51 ls [.ref (ad10 39), .ref (ad10 34)]) (by rw [eq10, ed10 34 (by omega)]) ?_
  clear hd10 hc10
  refine va_putF (D := D) (ci := 3) (v := .ref (ad10 39)) (ty := .array .int) (C := RM) (T := TM) (N := 9) hx hb hA9 inM tyM tyM_ok nmM hown hK hP hD hS 34 (wx_at (by omega) q10_34) rfl 5 (by decide) (hA9 _ mfM_26) (fun _ h9 => h9) rfl hin rfl (by decide +kernel) rfl rfl (Nat.le_of_ble_eq_true rfl) dM_init_51 (fun H locs hP hD hS => ?_)
  replace hP : va_P D CLS ((wx 40 ad10 ce10).set 34 (ad10 34, .inr (3, [.int (nI 0), .ref (ad10 35), .ref (ad10 36), .ref (ad10 37), .ref (ad10 38), .ref (ad10 39), .int 0, .int 0, .int 0]))) H := hP
  replace hD : va_D A ((wx 40 ad10 ce10).set 34 (ad10 34, .inr (3, [.int (nI 0), .ref (ad10 35), .ref (ad10 36), .ref (ad10 37), .ref (ad10 38), .ref (ad10 39), .int 0, .int 0, .int 0]))) := hD
  obtain ⟨ce11, hc11⟩ : ∃ z9, z9 = va_up ce10 34 (.inr (3, [.int (nI 0), .ref (ad10 35), .ref (ad10 36), .ref (ad10 37), .ref (ad10 38), .ref (ad10 39), .int 0, .int 0, .int 0])) := ⟨_, rfl⟩
  rw [wx_set (by omega), ← hc11] at hP hD
  have fc11 : ∀ j, j < 34 → ce11 j = ce j := fun j h => (by rw [hc11, va_up_ne _ _ (by omega)] : ce11 j = ce10 j).trans (fc10 j h)
  have q11_35 : ce11 35 = .inl (cI, 4000, .inl (fun _ => 0)) := by rw [hc11, va_up_ne _ _ (by omega), q10_35]
  have q11_36 : ce11 36 = .inl (cI, 4000, .inl (fun _ => 0)) := by rw [hc11, va_up_ne _ _ (by omega), q10_36]
  have q11_37 : ce11 37 = .inl (cI, 512, .inl (fun _ => 0)) := by rw [hc11, va_up_ne _ _ (by omega), q10_37]
  have q11_38 : ce11 38 = .inl (cI, 512, .inl (fun _ => 0)) := by rw [hc11, va_up_ne _ _ (by omega), q10_38]
  have q11_39 : ce11 39 = .inl (cI, 512, .inl (fun _ => 0)) := by rw [hc11, va_up_ne _ _ (by omega), qn10]
  have qw11 : ce11 34 = .inr (3, [.int (nI 0), .ref (ad10 35), .ref (ad10 36), .ref (ad10 37), .ref (ad10 38), .ref (ad10 39), .int 0, .int 0, .int 0]) := by rw [hc11, va_up_self]
  have ec11 : ∀ j, j ≠ 34 → ce11 j = ce10 j := fun j h => by rw [hc11, va_up_ne _ _ h]
  clear hc11
  refine lv_aload_n hx hb dM_init_54 rfl (lv_at hl 0 rfl) ?_
  refine lv_iconst (v := nI 0) hx hb dM_init_55 (by decide +kernel) ?_
  refine va_put (D := D) (ci := 3) (v := .int (nI 0)) (ty := .int) (C := RM) (T := TM) (N := 9) hx hb hA9 inM tyM tyM_ok nmM hown hK hP hD hS 34 (wx_at (by omega) qw11) rfl 6 (by decide) (hA9 _ mfM_29) (fun _ h9 => h9) rfl (by decide +kernel) rfl rfl (Nat.le_of_ble_eq_true rfl) dM_init_56 (fun H locs hP hD hS => ?_)
  replace hP : va_P D CLS ((wx 40 ad10 ce11).set 34 (ad10 34, .inr (3, [.int (nI 0), .ref (ad10 35), .ref (ad10 36), .ref (ad10 37), .ref (ad10 38), .ref (ad10 39), .int (nI 0), .int 0, .int 0]))) H := hP
  replace hD : va_D A ((wx 40 ad10 ce11).set 34 (ad10 34, .inr (3, [.int (nI 0), .ref (ad10 35), .ref (ad10 36), .ref (ad10 37), .ref (ad10 38), .ref (ad10 39), .int (nI 0), .int 0, .int 0]))) := hD
  obtain ⟨ce12, hc12⟩ : ∃ z9, z9 = va_up ce11 34 (.inr (3, [.int (nI 0), .ref (ad10 35), .ref (ad10 36), .ref (ad10 37), .ref (ad10 38), .ref (ad10 39), .int (nI 0), .int 0, .int 0])) := ⟨_, rfl⟩
  rw [wx_set (by omega), ← hc12] at hP hD
  have fc12 : ∀ j, j < 34 → ce12 j = ce j := fun j h => (by rw [hc12, va_up_ne _ _ (by omega)] : ce12 j = ce11 j).trans (fc11 j h)
  have q12_35 : ce12 35 = .inl (cI, 4000, .inl (fun _ => 0)) := by rw [hc12, va_up_ne _ _ (by omega), q11_35]
  have q12_36 : ce12 36 = .inl (cI, 4000, .inl (fun _ => 0)) := by rw [hc12, va_up_ne _ _ (by omega), q11_36]
  have q12_37 : ce12 37 = .inl (cI, 512, .inl (fun _ => 0)) := by rw [hc12, va_up_ne _ _ (by omega), q11_37]
  have q12_38 : ce12 38 = .inl (cI, 512, .inl (fun _ => 0)) := by rw [hc12, va_up_ne _ _ (by omega), q11_38]
  have q12_39 : ce12 39 = .inl (cI, 512, .inl (fun _ => 0)) := by rw [hc12, va_up_ne _ _ (by omega), q11_39]
  have qw12 : ce12 34 = .inr (3, [.int (nI 0), .ref (ad10 35), .ref (ad10 36), .ref (ad10 37), .ref (ad10 38), .ref (ad10 39), .int (nI 0), .int 0, .int 0]) := by rw [hc12, va_up_self]
  have ec12 : ∀ j, j ≠ 34 → ce12 j = ce11 j := fun j h => by rw [hc12, va_up_ne _ _ h]
  clear hc12
  refine lv_aload_n hx hb dM_init_59 rfl (lv_at hl 0 rfl) ?_
  refine lv_iconst (v := nI 0) hx hb dM_init_60 (by decide +kernel) ?_
  refine va_put (D := D) (ci := 3) (v := .int (nI 0)) (ty := .int) (C := RM) (T := TM) (N := 9) hx hb hA9 inM tyM tyM_ok nmM hown hK hP hD hS 34 (wx_at (by omega) qw12) rfl 7 (by decide) (hA9 _ mfM_32) (fun _ h9 => h9) rfl (by decide +kernel) rfl rfl (Nat.le_of_ble_eq_true rfl) dM_init_61 (fun H locs hP hD hS => ?_)
  replace hP : va_P D CLS ((wx 40 ad10 ce12).set 34 (ad10 34, .inr (3, [.int (nI 0), .ref (ad10 35), .ref (ad10 36), .ref (ad10 37), .ref (ad10 38), .ref (ad10 39), .int (nI 0), .int (nI 0), .int 0]))) H := hP
  replace hD : va_D A ((wx 40 ad10 ce12).set 34 (ad10 34, .inr (3, [.int (nI 0), .ref (ad10 35), .ref (ad10 36), .ref (ad10 37), .ref (ad10 38), .ref (ad10 39), .int (nI 0), .int (nI 0), .int 0]))) := hD
  obtain ⟨ce13, hc13⟩ : ∃ z9, z9 = va_up ce12 34 (.inr (3, [.int (nI 0), .ref (ad10 35), .ref (ad10 36), .ref (ad10 37), .ref (ad10 38), .ref (ad10 39), .int (nI 0), .int (nI 0), .int 0])) := ⟨_, rfl⟩
  rw [wx_set (by omega), ← hc13] at hP hD
  have fc13 : ∀ j, j < 34 → ce13 j = ce j := fun j h => (by rw [hc13, va_up_ne _ _ (by omega)] : ce13 j = ce12 j).trans (fc12 j h)
  have q13_35 : ce13 35 = .inl (cI, 4000, .inl (fun _ => 0)) := by rw [hc13, va_up_ne _ _ (by omega), q12_35]
  have q13_36 : ce13 36 = .inl (cI, 4000, .inl (fun _ => 0)) := by rw [hc13, va_up_ne _ _ (by omega), q12_36]
  have q13_37 : ce13 37 = .inl (cI, 512, .inl (fun _ => 0)) := by rw [hc13, va_up_ne _ _ (by omega), q12_37]
  have q13_38 : ce13 38 = .inl (cI, 512, .inl (fun _ => 0)) := by rw [hc13, va_up_ne _ _ (by omega), q12_38]
  have q13_39 : ce13 39 = .inl (cI, 512, .inl (fun _ => 0)) := by rw [hc13, va_up_ne _ _ (by omega), q12_39]
  have qw13 : ce13 34 = .inr (3, [.int (nI 0), .ref (ad10 35), .ref (ad10 36), .ref (ad10 37), .ref (ad10 38), .ref (ad10 39), .int (nI 0), .int (nI 0), .int 0]) := by rw [hc13, va_up_self]
  have ec13 : ∀ j, j ≠ 34 → ce13 j = ce12 j := fun j h => by rw [hc13, va_up_ne _ _ h]
  clear hc13
  refine lv_aload_n hx hb dM_init_64 rfl (lv_at hl 0 rfl) ?_
  refine lv_iconst (v := nI 0) hx hb dM_init_65 (by decide +kernel) ?_
  refine va_put (D := D) (ci := 3) (v := .int (nI 0)) (ty := .int) (C := RM) (T := TM) (N := 9) hx hb hA9 inM tyM tyM_ok nmM hown hK hP hD hS 34 (wx_at (by omega) qw13) rfl 8 (by decide) (hA9 _ mfM_35) (fun _ h9 => h9) rfl (by decide +kernel) rfl rfl (Nat.le_of_ble_eq_true rfl) dM_init_66 (fun H locs hP hD hS => ?_)
  replace hP : va_P D CLS ((wx 40 ad10 ce13).set 34 (ad10 34, .inr (3, [.int (nI 0), .ref (ad10 35), .ref (ad10 36), .ref (ad10 37), .ref (ad10 38), .ref (ad10 39), .int (nI 0), .int (nI 0), .int (nI 0)]))) H := hP
  replace hD : va_D A ((wx 40 ad10 ce13).set 34 (ad10 34, .inr (3, [.int (nI 0), .ref (ad10 35), .ref (ad10 36), .ref (ad10 37), .ref (ad10 38), .ref (ad10 39), .int (nI 0), .int (nI 0), .int (nI 0)]))) := hD
  obtain ⟨ce14, hc14⟩ : ∃ z9, z9 = va_up ce13 34 (.inr (3, [.int (nI 0), .ref (ad10 35), .ref (ad10 36), .ref (ad10 37), .ref (ad10 38), .ref (ad10 39), .int (nI 0), .int (nI 0), .int (nI 0)])) := ⟨_, rfl⟩
  rw [wx_set (by omega), ← hc14] at hP hD
  have fc14 : ∀ j, j < 34 → ce14 j = ce j := fun j h => (by rw [hc14, va_up_ne _ _ (by omega)] : ce14 j = ce13 j).trans (fc13 j h)
  have q14_35 : ce14 35 = .inl (cI, 4000, .inl (fun _ => 0)) := by rw [hc14, va_up_ne _ _ (by omega), q13_35]
  have q14_36 : ce14 36 = .inl (cI, 4000, .inl (fun _ => 0)) := by rw [hc14, va_up_ne _ _ (by omega), q13_36]
  have q14_37 : ce14 37 = .inl (cI, 512, .inl (fun _ => 0)) := by rw [hc14, va_up_ne _ _ (by omega), q13_37]
  have q14_38 : ce14 38 = .inl (cI, 512, .inl (fun _ => 0)) := by rw [hc14, va_up_ne _ _ (by omega), q13_38]
  have q14_39 : ce14 39 = .inl (cI, 512, .inl (fun _ => 0)) := by rw [hc14, va_up_ne _ _ (by omega), q13_39]
  have qw14 : ce14 34 = .inr (3, [.int (nI 0), .ref (ad10 35), .ref (ad10 36), .ref (ad10 37), .ref (ad10 38), .ref (ad10 39), .int (nI 0), .int (nI 0), .int (nI 0)]) := by rw [hc14, va_up_self]
  have ec14 : ∀ j, j ≠ 34 → ce14 j = ce13 j := fun j h => by rw [hc14, va_up_ne _ _ h]
  clear hc14
  exact W.vret hx hb hr (fun t ht hW => ⟨⟨(ad10, ce14), rfl, ⟨fa10, fc14, qw14, q14_35, q14_36, q14_37, q14_38, q14_39⟩, by rw [ht]; exact hP, va_K.moved hW.alike hK, hD⟩, hS.F ht⟩) hS.2.2 dM_init_69
end
