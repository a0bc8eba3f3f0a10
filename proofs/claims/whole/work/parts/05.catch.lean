/-! a thrown object is caught by a row of the method's own table, the row's class linked or not yet -/
section CX
theorem cx_row {Q : Handler → Pre} {E : CtlPost} {e : Env} {d : Bool} {acts : List Action} {s : State} {f : JFrame} {a : Addr} {z : ExceptionTableEntry} {t : List ExceptionTableEntry} {k : ClassId} {ce : Cell} (hz : covers z f.pc = true) (h0 : z.catchType ≠ 0)
    (hl : s.vm.ClassLinks e.platform f.method.cls z.catchType k) (hce : s.heap[a]? = some ce) (ho : ∀ i, ce.vm ≠ .statics i) (hk1 : ∃ q, s.vm.classes[ce.cls]? = some q) (hk2 : ∃ q, s.vm.classes[k]? = some q) {bb : Bool} (hb : s.vm.assignable ce.cls k = bb) :
    wp (findHandler.go f a (z :: t)) Q E e d acts s ↔ if bb = true then Q (.found z.handlerPc) d acts (s.setVm (s.vm.noted f.method.cls z.catchType (.cls k))) else wp (findHandler.go f a t) Q E e d acts (s.setVm (s.vm.noted f.method.cls z.catchType (.cls k))) := by
  have hz' : (decide (z.startPc ≤ f.pc) && decide (f.pc < z.endPc)) = true := hz
  obtain ⟨g1, g2⟩ := (resolveClass_links e.toSetting hl).op (op := VmOp.resolveClass f.method.cls z.catchType) rfl
  have hal : s.vm.Alike (s.vm.noted f.method.cls z.catchType (.cls k)) := (Vm.Alike.refl s.vm).noted _ _ _
  obtain ⟨q1, hq1⟩ := hk1
  obtain ⟨q2, hq2⟩ := hk2
  obtain ⟨r1, hr1, -⟩ := hal.2.2 _ _ hq1
  obtain ⟨r2, hr2, -⟩ := hal.2.2 _ _ hq2
  have hb' : (s.vm.noted f.method.cls z.catchType (.cls k)).assignable ce.cls k = bb := by rw [hal.assignable]; exact hb
  cases bb <;> simp [findHandler.go, hz', h0, g1, g2, hce, ho, hr1, hr2, hb', VmOp.dirties, VmOp.acts]
/-- rows ahead that name other classes, then the row that takes it -/
theorem cx_find {e : Env} {s0 : State} {f : JFrame} {a : Addr} {ce : Cell} (ho : ∀ i, ce.vm ≠ .statics i) (hk1 : ∃ q, s0.vm.classes[ce.cls]? = some q) {z : ExceptionTableEntry} {suf : List ExceptionTableEntry} {k : ClassId} (hz : covers z f.pc = true) (h0 : z.catchType ≠ 0)
    (hl : s0.vm.ClassLinks e.platform f.method.cls z.catchType k) (hk2 : ∃ q, s0.vm.classes[k]? = some q) (hb : s0.vm.assignable ce.cls k = true) :
    ∀ (pre : List ExceptionTableEntry), (∀ y ∈ pre, covers y f.pc = true ∧ y.catchType ≠ 0 ∧ ∃ j, s0.vm.ClassLinks e.platform f.method.cls y.catchType j ∧ (∃ q, s0.vm.classes[j]? = some q) ∧ s0.vm.assignable ce.cls j = false) →
    ∀ S : State, s0.WarmedH S.vm → S.heap[a]? = some ce → ∃ v : Vm, s0.WarmedH v ∧ ∀ (Q : Handler → Pre) (E : CtlPost) (d : Bool) (acts : List Action), wp (findHandler.go f a (pre ++ z :: suf)) Q E e d acts S ↔ Q (.found z.handlerPc) d acts (S.setVm v) := by
  have up : ∀ (S : State) (i : ClassId), s0.WarmedH S.vm → (∃ q, s0.vm.classes[i]? = some q) → ∃ q, S.vm.classes[i]? = some q := fun S i hW ⟨q, hq⟩ => by
    obtain ⟨r, hr, -⟩ := hW.alike.2.2 _ _ hq
    exact ⟨r, hr⟩
  have nt : ∀ (S : State) (y : ExceptionTableEntry) (j : ClassId), s0.WarmedH S.vm → s0.vm.ClassLinks e.platform f.method.cls y.catchType j → s0.WarmedH (S.vm.noted f.method.cls y.catchType (.cls j)) := fun S y j hW hj => by
    obtain ⟨dk, _, _, kt, hd, _, _, _, _, hkt, _, hopen⟩ := hj.here
    exact hW.noted hd hopen (State.rightAt_cls hj)
  intro pre
  induction pre with
  | nil =>
    intro _ S hW hce
    refine ⟨_, nt S z k hW hl, fun Q E d acts => ?_⟩
    rw [List.nil_append, cx_row hz h0 (hW.classLinks hl) hce ho (up S _ hW hk1) (up S _ hW hk2) (bb := true) (by rw [hW.alike.assignable]; exact hb), if_pos rfl]
  | cons y ys ih =>
    intro hp S hW hce
    obtain ⟨hy, hy0, j, hj, hjk, hjb⟩ := hp y List.mem_cons_self
    obtain ⟨v, hv, hq⟩ := ih (fun w hw => hp w (List.mem_cons_of_mem _ hw)) (S.setVm (S.vm.noted f.method.cls y.catchType (.cls j))) (nt S y j hW hj) hce
    refine ⟨v, hv, fun Q E d acts => ?_⟩
    rw [List.cons_append, cx_row hy hy0 (hW.classLinks hj) hce ho (up S _ hW hk1) (up S _ hW hjk) (bb := false) (by rw [hW.alike.assignable]; exact hjb), if_neg (by decide)]
    exact hq Q E d acts
variable {p : Program} {l : Launch} {e : Env} {R : Room} {s : State} {m : MethodId} {args : Array Value} {below : List Frame} {meth : Method} {c : Code} {H : Heap} {locs : List Loc} {cells slots : Nat} {Q : State → Prop} {pc : Nat} {ls : Array Slot} {rest : List Value}
theorem cx_catch {own name E : String} {ce : Cell} {q : Addr} (hown : s.vm.findClass own = some m.cls) (pre : List ExceptionTableEntry) (z : ExceptionTableEntry) (suf : List ExceptionTableEntry) (hs : c.exceptionTable.toList = pre ++ z :: suf)
    (hpass : ∀ y ∈ pre, covers y pc = true ∧ y.catchType ≠ 0 ∧ ∃ nm : String, (Cond.classLink own y.catchType nm).before args s = true ∧ va_Nc E nm s) (hz : covers z pc = true) (h0 : z.catchType ≠ 0)
    (hlink : (Cond.classLink own z.catchType name).before args s = true) (hcast : (Cond.castable E name).before args s = true) (hcell : H[q]? = some ce) (hv : ce.vm = .none) (hcl : s.vm.findClass E = some ce.cls)
    (kk : W p l e R s m args below meth c H locs cells slots Q (F0 m z.handlerPc ls [.ref q])) : vx_W p l e R s m args below meth c H locs cells slots Q (F0 m pc ls rest) q := by
  intro T hT X
  have hpl : e.platform.magicAccessors = ({} : Platform).magicAccessors := by rw [X.admits.platform]
  have ho : ∀ i, ce.vm ≠ .statics i := fun i hi => by rw [hv] at hi; cases hi
  have at1 : ∀ {n : String} {i : ClassId}, s.vm.findClass n = some i → ∃ r, s.vm.classes[i]? = some r := fun h => by
    obtain ⟨r, hr, -⟩ := Vm.findClass_spec h
    exact ⟨r, hr⟩
  obtain ⟨c3, c4, hc3, hc4, hasg⟩ := Cond.castable_spec hcast
  cases Option.some.inj (hc3.symm.trans hcl)
  obtain ⟨c5, hc5, hl5⟩ := Cond.classLink_spec hown hlink e.platform hpl
  cases Option.some.inj (hc4.symm.trans hc5)
  have hpass' : ∀ y ∈ pre, covers y (F0 m pc ls rest).pc = true ∧ y.catchType ≠ 0 ∧ ∃ j, s.vm.ClassLinks e.platform (F0 m pc ls rest).method.cls y.catchType j ∧ (∃ r, s.vm.classes[j]? = some r) ∧ s.vm.assignable ce.cls j = false := fun y hy => by
    obtain ⟨y1, y2, nm, hl1, a8, b8, h1, h2, h3⟩ := hpass y hy
    obtain ⟨c6, hc6, hl6⟩ := Cond.classLink_spec hown hl1 e.platform hpl
    cases Option.some.inj (h1.symm.trans hcl)
    cases Option.some.inj (h2.symm.trans hc6)
    exact ⟨y1, y2, _, hl6, at1 hc6, h3⟩
  have hme : ((T.setTop (F0 m pc ls rest)).pushFrame (.throwing q)).vm = T.vm := throwing_vm T _ q
  have hhe : ((T.setTop (F0 m pc ls rest)).pushFrame (.throwing q)).heap = T.heap := throwing_heap T _ q
  obtain ⟨v, hv9, hq9⟩ := cx_find (e := e) (s0 := s) (f := F0 m pc ls rest) (a := q) ho (at1 hcl) (suf := suf) hz h0 hl5 (at1 hc5) hasg pre hpass' ((T.setTop (F0 m pc ls rest)).pushFrame (.throwing q)) (by rw [hme]; exact X.warmed) (by rw [hhe, hT]; exact hcell)
  obtain ⟨t, a1, b1⟩ := kk (T.setVm v) hT (X.noted hv9)
  refine ⟨t, ?_, b1⟩
  have hAt : At T (F0 m pc ls rest).method c below := X.here
  obtain ⟨hgo, hw⟩ := hAt.throwing q
  refine Steps.head hgo hw ?_
  have hfd : ∀ (Q9 : Handler → Pre) (E9 : CtlPost) (d9 : Bool) (ac : List Action), wp (findHandler (F0 m pc ls rest) q) Q9 E9 e d9 ac ((T.setTop (F0 m pc ls rest)).pushFrame (.throwing q)) ↔ Q9 (.found z.handlerPc) d9 ac (((T.setTop (F0 m pc ls rest)).pushFrame (.throwing q)).setVm v) := fun Q9 E9 d9 ac => by
    rw [W.findHandler_eq (meth := meth) (code := c) (by rw [hme]; exact X.method') X.code, hs]
    exact hq9 Q9 E9 d9 ac
  rw [stepThread_throwing (frames_entered hAt.top _)]
  have hstep : ∀ r : List Frame, (stepThrowing e ((T.setTop (F0 m pc ls rest)).pushFrame (.throwing q)) q (.java (F0 m pc ls rest) :: r)).Is ((((T.setTop (F0 m pc ls rest)).pushFrame (.throwing q)).setVm v).setFrames (.java { F0 m pc ls rest with pc := z.handlerPc, stack := [.ref q] } :: r)) [] := fun r => by
    simp only [stepThrowing, searchFrame, vmDo]
    generalize hr : Sem.go _ e false [] _ = res
    obtain ⟨as, rfl, ha⟩ := Sem.eq_ok_of hr (a := Handler.found z.handlerPc) (s' := ((T.setTop (F0 m pc ls rest)).pushFrame (.throwing q)).setVm v) (acts' := []) (by simp [hfd _ _ _ _])
    exact ⟨rfl, ha⟩
  rw [(hstep _).1]
  obtain ⟨g0, hg0⟩ := Option.isSome_iff_exists.mp hAt.top
  obtain ⟨r, hr⟩ := State.topJava?_eq_some.mp hg0
  have hr' : (T.setVm v).frames = .java g0 :: r := hr
  rw [State.setTop_of_frames _ hr'] at a1
  rw [hr, List.tail_cons, State.pushFrame, State.setTop_of_frames _ hr]
  have e1 : ∀ (F G : List Frame) (u : State), ((u.setFrames F).setVm v).setFrames G = (u.setVm v).setFrames G := fun F G u => by
    have h1 : (u.setFrames F).setVm v = (u.setVm v).setFrames F := rfl
    rw [h1, State.setFrames_setFrames]
  rw [e1, e1]
  exact a1
end CX
