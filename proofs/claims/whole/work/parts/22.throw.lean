/-! methods that may throw -/
abbrev eI : String := "java/lang/IllegalArgumentException"
abbrev eN : String := "java/util/NoSuchElementException"
abbrev eR : List String := ["java/lang/RuntimeException", "java/lang/Exception"]
/-- what holds of the start and stays: two statics of Throwable, the texts, casts -/
def EV (A : Nat → Prop) (U : State) (H : Heap) : Prop := vx_Zq Bundle.tN "UNASSIGNED_STACK" Bundle.steD A U H ∧ vx_Zq Bundle.tN "SUPPRESSED_SENTINEL" Bundle.listD A U H ∧
  (∃ a, vk_R RL 39 "not a length within the row" a U) ∧ (∃ a, vk_R RL 52 "no such place" a U) ∧ (∃ a, vk_R RL 92 "not a number of the range" a U) ∧ (∃ a, vk_R RL 94 "not a part of the tree" a U) ∧ (∃ a, vk_R RL 70 "it does not stand there so often" a U) ∧ (∃ a, vk_R RL 76 "the part has not so many" a U) ∧ (∃ a, vk_R RL 90 "not so many different numbers" a U) ∧
  va_Nw (.castable eI eI) U ∧ va_Nw (.castable eN eN) U ∧ va_Nc eN eI U ∧ va_Nw (.declares (Bundle.initS "java/lang/RuntimeException")) U ∧ va_Nw (.declares (Bundle.initS "java/lang/Exception")) U ∧ va_Nw (.declares (Bundle.initS Bundle.tN)) U
theorem EV.warm {A B : Nat → Prop} {s U : State} {H H1 : Heap} (h : EV A s H) (hW : s.WarmedH U.vm) (hq : ∀ a : Nat, a < H.size → ¬ A a → H1[a]? = H[a]?) (hAB : ∀ q, B q → A q) : EV B U H1 := by
  obtain ⟨h1, h2, ⟨a1, s1⟩, ⟨a2, s2⟩, ⟨a3, s3⟩, ⟨a4, s4⟩, ⟨a5, s5⟩, ⟨a6, s6⟩, ⟨a7, s7⟩, c1, c2, c3, c4, c5, c6⟩ := h
  exact ⟨((h1.kept hq).moved hW.alike).narrow hAB, ((h2.kept hq).moved hW.alike).narrow hAB, ⟨a1, s1.warm hW⟩, ⟨a2, s2.warm hW⟩, ⟨a3, s3.warm hW⟩, ⟨a4, s4.warm hW⟩, ⟨a5, s5.warm hW⟩, ⟨a6, s6.warm hW⟩, ⟨a7, s7.warm hW⟩, va_Nw.warmC hW c1, va_Nw.warmC hW c2, c3.moved hW.alike, va_Nw.warmD hW c4, va_Nw.warmD hW c5, va_Nw.warmD hW c6⟩
def PX (D : va_G) (ty : List (ClassId × FieldType)) (N : Nat) (ad : Nat → Nat) (ce : Nat → va_E) (sz : Nat) (av : List Value) : Array Value → State → Prop := va_Pc av (fun U => U.heap.size = sz ∧ va_P D CLS (wx N ad ce) U.heap ∧ va_K D CLS ty U ∧ va_D (fun _ => True) (wx N ad ce) ∧ EV (AW N ad sz) U U.heap)
theorem PX_bl {D : va_G} {ty : List (ClassId × FieldType)} {N : Nat} {ad : Nat → Nat} {ce : Nat → va_E} {sz : Nat} {av : List Value} : FrameBlind (PX D ty N ad ce sz av) := fun a U g mk q => ⟨q.1, q.2.1, q.2.2.1, va_K.moved (u := U) (U := U.calling g mk a) (Vm.Alike.refl U.vm) q.2.2.2.1, q.2.2.2.2.1, EV.warm (U := U.calling g mk a) q.2.2.2.2.2 (State.WarmedH.refl U) (fun _ _ _ => rfl) (fun _ h => h)⟩
theorem PX_mk {D : va_G} {ty : List (ClassId × FieldType)} {N : Nat} {ad : Nat → Nat} {ce : Nat → va_E} {av : List Value} {s : State} {H : Heap} {A : Nat → Prop} {locs : List Loc} (hK : va_K D CLS ty s) (hP : va_P D CLS (wx N ad ce) H) (hD : va_D A (wx N ad ce)) (hE : EV A s s.heap) (hS : va_S A s.heap H locs) (hA : ∀ q, s.heap.size ≤ q → A q) : ∀ U : State, U.heap = H → s.WarmedH U.vm → PX D ty N ad ce H.size av av.toArray U := fun U hU hW => ⟨rfl, by rw [hU], by rw [hU]; exact hP, va_K.moved hW.alike hK, hD.weaken (fun _ _ _ _ => trivial), by rw [hU]; exact EV.warm hE hW hS.2.1 (aw_in hD hS hA)⟩
/-- thrown: the class by its name, nothing old changed -/
def XK (P : String → Prop) : String → State → State → Prop := vx_X (fun _ : Unit => True) (fun E _ _ => P E) (fun _ => False)
theorem mx_I : ∀ w ∈ (vx_atS RL 41 eI eR).filter goodWord, w ∈ WA := fun w h => List.mem_filter.mpr ⟨(by decide +kernel : ∀ w ∈ (vx_atS RL 41 eI eR).filter goodWord, w ∈ lw_tbl) w h, (List.mem_filter.mp h).2⟩

/-- the words of 'throw new NoSuchElementException(text)': its constructor names the next one by entry 13 -/
def nAt : List Cond := Bundle.throwableAtoms ++ Bundle.throwableSAtoms ++ (Bundle.passSAtoms eN "java/lang/RuntimeException" 13 prog_15_method_4_code ++ Bundle.chainSAtoms "java/lang/RuntimeException" ["java/lang/Exception"]) ++
  [.methodLink RL 54 (Bundle.initS eN), .instantiable eN 6, .castable eN eN, .selects eN Bundle.tFill0 Bundle.tFill0, .selects eN Bundle.tFill Bundle.tFill,
   .lays eN Bundle.tN "cause" "Ljava/lang/Throwable;", .lays eN Bundle.tN "stackTrace" Bundle.steD, .lays eN Bundle.tN "suppressedExceptions" Bundle.listD, .lays eN Bundle.tN "detailMessage" "Ljava/lang/String;",
   .isRef (.static Bundle.tN "UNASSIGNED_STACK" Bundle.steD), .isRef (.static Bundle.tN "SUPPRESSED_SENTINEL" Bundle.listD),
   .fieldLink Bundle.tN 198 Bundle.tN "backtrace" "Ljava/lang/Object;", .lays Bundle.tN Bundle.tN "backtrace" "Ljava/lang/Object;", .lays eN Bundle.tN "backtrace" "Ljava/lang/Object;"]
def nAtS : List Cond := nAt.filter vx_no
theorem nA1 {w : Cond} (h : w ∈ Bundle.throwableAtoms) : w ∈ nAt := List.mem_append_left _ (List.mem_append_left _ (List.mem_append_left _ h))
theorem nA2 {w : Cond} (h : w ∈ Bundle.throwableSAtoms) : w ∈ nAt := List.mem_append_left _ (List.mem_append_left _ (List.mem_append_right _ h))
theorem nA3 {w : Cond} (h : w ∈ Bundle.passSAtoms eN "java/lang/RuntimeException" 13 prog_15_method_4_code) : w ∈ nAt := List.mem_append_left _ (List.mem_append_right _ (List.mem_append_left _ h))
theorem nA4 {w : Cond} (h : w ∈ Bundle.chainSAtoms "java/lang/RuntimeException" ["java/lang/Exception"]) : w ∈ nAt := List.mem_append_left _ (List.mem_append_right _ (List.mem_append_right _ h))
theorem mx_N : ∀ w ∈ nAtS.filter goodWord, w ∈ WA := fun w h => List.mem_filter.mpr ⟨(by decide +kernel : ∀ w ∈ nAtS.filter goodWord, w ∈ lw_tbl) w h, (List.mem_filter.mp h).2⟩
section
variable {p : Program} {l : Launch} {e : Env} {R : Room} {s : State} {m₀ : MethodId} {args : Array Value} {below : List Frame} {meth : Method} {c : Code} {W9 : State} {locs : List Loc} {cells slots : Nat}
set_option maxHeartbeats 4000000 in
/-- its constructor runs, and the object is thrown out of the method -/
theorem nse_ctor (X : Stand p l e R s m₀ args below meth c W9 locs cells slots) (hexec : p.tables.exec = Jvm.exec) (htr : e.platform.stackTraces = false)
    (hown : s.vm.findClass RL = some m₀.cls) (h : ∀ w ∈ nAt, w.before args s = true) (hlocs : ∀ x ∈ locs, ∀ cell, s.heap[x.base]? = some cell → cell.vm.isStatics = false)
    {a : Addr} {cX : ClassId} {kX : Class} (hfX : s.vm.findClass eN = some cX) (hkX : s.vm.classes[cX]? = some kX) (hcell : W9.heap[a]? = some (freshCell cX kX)) (hnew : s.heap.size ≤ a) {msg : Value} (hmsg : msg.isRef = true)
    {g : JFrame} (hg : g.method = m₀) (hsize : g.locals.size = c.maxLocals) (hlocked : g.locked = none) (hentered : g.entered = []) {rest : List Value} (hstack : g.stack = msg :: .ref a :: .ref a :: rest)
    (hd6 : decode c.code g.pc = .ok (.invokespecial 54, 3)) (hd9 : decode c.code (g.pc + 3) = .ok (.athrow, 1)) (hout : ∀ x ∈ c.exceptionTable.toList, covers x (g.pc + 3) = false)
    (hRf : 5 < R.frames) (hRl : 2 * g.monitorRoom + ((Value.ref a :: rest).map fun v => v.category).sum + 81 ≤ R.locals) (hlocks : meth.locks = false) :
    ∃ U : State, Steps p.tables e below (W9.setTop g) U ∧ U.status = .running ∧ Ended U below (.threw a) ∧ s.WarmedH U.vm ∧ s.sameButNew ({ U with vm := s.vm } : State) locs cells slots ∧ ∃ ce, U.heap[a]? = some ce ∧ ce.vm = .none ∧ s.vm.findClass eN = some ce.cls := by
  have howns : e.platform.frameOwnsMonitors = true := by rw [X.admits.platform]
  have hfin : e.platform.finalization = false := by rw [X.admits.platform]
  have hpl : e.platform.magicAccessors = ({} : Platform).magicAccessors := by rw [X.admits.platform]
  have tl : ∀ {w : Cond}, w ∈ nAt → w.holds args s none s [] = true := fun hw => h _ hw
  obtain ⟨T, Z0, L, -, Y⟩ := ThrowableC.of_atoms (args := args) howns hfin hpl (fun w hw => h w (nA1 hw))
  obtain ⟨Z, M, LZ, LM, hnZ⟩ := Init0T.ofS_atoms (args := args) hpl L Y (fun w hw => h w (nA2 hw))
  obtain ⟨P2, Ps, hlen, L2, hL, hP2m, hlk2, hlk3⟩ := Bundle.chainS (args := args) hpl hnZ ["java/lang/Exception"] "java/lang/RuntimeException" (by decide +kernel) (by decide +kernel) (fun w hw => h w (nA4 hw))
  obtain ⟨P1, L1, hP1m, hP1s⟩ := PassC.ofS_atoms (args := args) (s := s) hpl (X := eN) (Y := "java/lang/RuntimeException") (index := 13) (bytes := prog_15_method_4_code) (by decide +kernel) (by decide) (by decide +kernel) (by decide +kernel) (by decide +kernel) (by decide +kernel) (fun w hw => h w (nA3 hw))
  have hfd : s.vm.findClass eN = some P1.m.cls := findClass_of_methodNamed hP1m
  cases Option.some.inj (hfX.symm.trans hfd)
  obtain ⟨c1, kX', hc1, hk, hord, -, -, hn6⟩ := Cond.instantiable_spec (tl (w := .instantiable eN 6) (by simp [nAt]))
  cases Option.some.inj (hc1.symm.trans hfd)
  cases Option.some.inj (hkX.symm.trans hk)
  have sel : ∀ {y : MethodName} {i : MethodId}, (Cond.selects eN y y) ∈ nAt → s.methodNamed? y = some i → (y.cls ≠ "java/lang/invoke/MethodHandle" ∧ y.cls ≠ "java/lang/invoke/VarHandle") → selectMethod e.platform s.vm P1.m.cls i = .method i := fun hw hn hy => by
    obtain ⟨c2, r2, m2, q1, q2, q3, q4, -⟩ := Cond.selects_spec (tl hw)
    cases Option.some.inj (q1.symm.trans hfd)
    cases Option.some.inj (q2.symm.trans (State.methodFound?_of_named hn hy))
    cases Option.some.inj (q3.symm.trans hn)
    rw [Launch.admits_selectMethod X.admits]; exact q4
  have hsel0 := sel (y := Bundle.tFill0) (by simp [nAt]) Y.fill0 (by decide)
  have hselF := sel (y := Bundle.tFill) (by simp [nAt]) Y.fill (by decide)
  obtain ⟨cs0, hcs0, hiss⟩ := Y.statics
  obtain ⟨u0, hu0⟩ := Cond.staticRefV Y.unassigned L.unassignedStatic L.statics hcs0 hiss (tl (w := .isRef (.static Bundle.tN "UNASSIGNED_STACK" Bundle.steD)) (by simp [nAt]))
  obtain ⟨sen, hsen⟩ := Cond.staticRefV Y.sentinel L.sentinelStatic L.statics hcs0 hiss (tl (w := .isRef (.static Bundle.tN "SUPPRESSED_SENTINEL" Bundle.listD)) (by simp [nAt]))
  obtain ⟨ci198, i198, fB, hk198, hg198, ha198, hsB, -, hnB, htB, hffB⟩ := Cond.ownField (t := .object "java/lang/Object") Y.found L.cls (by decide +kernel) (tl (w := .fieldLink Bundle.tN 198 Bundle.tN "backtrace" "Ljava/lang/Object;") (by simp [nAt])) (tl (w := .lays Bundle.tN Bundle.tN "backtrace" "Ljava/lang/Object;") (by simp [nAt])) e.platform hpl
  obtain ⟨cs1, hcs1, he1, -, hkp⟩ := X.same.2.2.2.2.2 T.aS cs0 hcs0
  have hcs : W9.heap[T.aS]? = some cs1 := hcs1
  have hoff : ∀ i, (⟨T.aS, i⟩ : Loc) ∉ locs := fun i hm => by
    have := hlocs _ hm cs0 hcs0
    rw [hiss] at this; cases this
  have hkn : cs1.vm ≠ .unknown := by
    rw [he1]; intro hu
    rw [show cs0.vm = .unknown from hu] at hiss
    cases hiss
  have hne : T.aS ≠ a := Nat.ne_of_lt (Nat.lt_of_lt_of_le (Array.getElem?_eq_some_iff.mp hcs0).1 hnew)
  obtain ⟨iM, hffM⟩ := Y.msg
  obtain ⟨tyC, dC, hdC, hdnC⟩ := Cond.laysAt hfd hk Y.cause (tl (w := .lays eN Bundle.tN "cause" "Ljava/lang/Throwable;") (by simp [nAt]))
  obtain ⟨tyS, dS, hdS, hdnS⟩ := Cond.laysAt hfd hk Y.stack (tl (w := .lays eN Bundle.tN "stackTrace" Bundle.steD) (by simp [nAt]))
  obtain ⟨tyP, dP, hdP, hdnP⟩ := Cond.laysAt hfd hk Y.supp (tl (w := .lays eN Bundle.tN "suppressedExceptions" Bundle.listD) (by simp [nAt]))
  obtain ⟨tyM, dM, hdM, hdnM⟩ := Cond.laysAt hfd hk hffM (tl (w := .lays eN Bundle.tN "detailMessage" "Ljava/lang/String;") (by simp [nAt]))
  obtain ⟨tyB, dB, hdB, hdnB⟩ := Cond.laysAt hfd hk hffB (tl (w := .lays eN Bundle.tN "backtrace" "Ljava/lang/Object;") (by simp [nAt]))
  have bC := Cond.laysApart hdB hdC hdnB hdnC (by rw [hnB, Y.causeName]; decide)
  have bS := Cond.laysApart hdB hdS hdnB hdnS (by rw [hnB, Y.stackName]; decide)
  have bP := Cond.laysApart hdB hdP hdnB hdnP (by rw [hnB, Y.suppName]; decide)
  have hskip : SkipFacts T e.platform s (fun u => u) u0 ((preparedCellV T.toThrowableT (freshCell P1.m.cls kX) a u0 sen).withEntry W9.cur) :=
    ⟨{ ci198 := ci198, i198 := i198, fBack := fB }, ⟨hk198, hg198, ha198, hsB⟩, by
      have q := fresh_default (c := P1.m.cls) tyB
      rw [htB] at q
      simpa [preparedCellV, Cell.setSlot, Cell.withEntry, Array.getElem?_setIfInBounds, bC, bS, bP, bC.symm, bS.symm, bP.symm, defaultValue] using q, fun _ _ => rfl⟩
  obtain ⟨tm, methC, cdC, kC, vm₁, hnC, -, -, -, -, -, -, -, hW₁, st1⟩ := Steps.initColdS (tb := p.tables) (e := e) (below := below) (s := s) (U := W9) X.here hexec X.warmed hpl hown (t := Bundle.initS eN) rfl rfl (by decide)
    (tl (w := .methodLink RL 54 (Bundle.initS eN)) (by simp [nAt])) (h (.instanceMethod (Bundle.initS eN)) (nA3 (by simp [Bundle.passSAtoms]))) (bytes := prog_15_method_4_code) (maxL := 2) (h (.code (Bundle.initS eN) prog_15_method_4_code 2 none) (nA3 (by simp [Bundle.passSAtoms])))
    (f := g) hg (a := a) (msg := msg) (rest := .ref a :: rest) hstack hd6
  cases Option.some.inj (hnC.symm.trans hP1m)
  have X₁ := X.noted hW₁
  have hl1 : Ps.length = 1 := hlen
  obtain ⟨vm₂, X₂, st2⟩ := X₁.ctorMessageOffV hexec (g := { g with stack := .ref a :: rest }) hg hsize T L Z LZ M LM (P1 :: P2 :: Ps)
    (fun P hP => by
      rcases List.mem_cons.mp hP with rfl | hP
      · exact L1
      · rcases List.mem_cons.mp hP with rfl | hP
        · exact L2
        · exact hL P hP) ⟨Option.some.inj (hP1s.symm.trans hP2m), hlk2, hlk3⟩ (u0 := u0) (sen := sen) (self := a) hmsg (cell := freshCell P1.m.cls kX) (cellS := cs1)
    hcell (fun _ => by simp) (by simp) rfl rfl hsel0 hselF hcs hne hkn (by rw [hkp _ (hoff _)]; exact hu0) (by rw [hkp _ (hoff _)]; exact hsen)
    (Takes.of_laid hk hord tyC (by rw [Y.causeType]; rfl)) (Takes.of_laid hk hord tyS (by rw [Y.stackType]; exact fits_refV_array _ u0)) (Takes.of_laid hk hord tyP (by rw [Y.suppType]; exact fits_refV_object _ sen))
    (Takes.of_laid hk hord tyM (by rw [Y.msgType]; exact fits_refV_object _ ⟨msg, hmsg⟩)) Y.objLocals hskip htr [] hd6
    (by simp only [List.length_cons, hl1]; omega) (by simp only [List.length_cons, hl1]; exact hRl)
  obtain ⟨hwalk, hrun, hended, hWU, hsame⟩ := X₂.athrowLeaves hexec (g := { g with stack := .ref a :: rest, pc := g.pc + 3 }) hg hlocked hentered hout (a := a) (rest := rest) rfl hd9
  have hlt : a < ((W9.setVm vm₁).setVm vm₂).heap.size := (Array.getElem?_eq_some_iff.mp hcell).1
  refine ⟨_, st1 _ (fun acts => ?_), hrun, hended, hWU, hsame.weaken (fun y hy hy2 => ?_) (Nat.le_refl _) (Nat.le_refl _), _, heapAt_setCell_self (s := (W9.setVm vm₁).setVm vm₂) (plainBareV T.toThrowableT (freshCell P1.m.cls kX) a u0 sen msg) hlt, rfl, hfd⟩
  · rw [doInvoke_state]
    exact st2 _ hwalk
  · rcases List.mem_append.mp hy with h1 | h1
    · exact h1
    · exfalso
      have hb : y.base = a := by
        simp only [List.mem_cons, List.not_mem_nil, or_false] at h1
        rcases h1 with rfl | rfl | rfl | rfl | rfl <;> rfl
      rw [hb] at hy2
      exact Nat.not_lt.mpr hnew hy2
end
section
variable {p : Program} {l : Launch} {e : Env} {R : Room} {s : State} {m : MethodId} {args : Array Value} {below : List Frame} {meth : Method} {c : Code} {H : Heap} {locs : List Loc} {cells slots mc ms pc : Nat} {A : Nat → Prop} {ls : Array Slot} {rest : List Value} {cc : ByteArray} {Qc : Array Value → State → Outcome → State → Prop} {P : String → Prop}
theorem thr {cls text : String} {ik is ic : Nat} {sa : Nat} (hexec : p.tables.exec = Jvm.exec) (hb : c.code = cc) (hl : l.stackTraces = false) (hown : s.vm.findClass RL = some m.cls) (hcls : Bundle.fit cls = true) (hk : (Cond.classLink RL ik cls).before args s = true) (hini : (Cond.initialized cls).before args s = true) (hstr : vk_R RL is text sa s) (hat : ∀ w ∈ vx_atS RL ic cls eR, w.before args s = true)
    (hgood : ∀ w ∈ Cond.classLink RL ik cls :: Cond.initialized cls :: vx_atS RL ic cls eR, vx_ot w = true) (hE : EV A s s.heap) (hS : va_S A s.heap H locs) (hU : ∀ q : Nat, q < s.heap.size → H[q]? = s.heap[q]?) (hsize : ls.size = c.maxLocals)
    (d0 : decode cc pc = .ok (.new ik, 3)) (d3 : decode cc (pc + 3) = .ok (.dup, 1)) (d4 : decode cc (pc + 4) = .ok (.ldc is, 2)) (d6 : decode cc (pc + 6) = .ok (.invokespecial ic, 3)) (d9 : decode cc (pc + 9) = .ok (.athrow, 1)) (ht : ∀ x ∈ c.exceptionTable.toList, False)
    (hRf : 5 < R.frames) (hRl : (rest.map fun v => v.category).sum + 82 ≤ R.locals) (hRc : cells + 1 ≤ R.cells) (hRs : slots + 6 ≤ R.slots) (hlocks : meth.locks = false) (hP : P cls) (hc : cells + 1 ≤ mc) (hs : slots + 6 ≤ ms) :
    W p l e R s m args below meth c H locs cells slots (vx_MQ below Qc (XK P) args s mc ms A) (F0 m pc ls rest) :=
  vx_throwS hexec hb hl hown hcls (by decide +kernel) hk hini hstr hat hgood hE.1 hE.2.1 hS hsize d0 d3 d4 d6 d9 (fun x h => (ht x h).elim) hRf hRl hRc hRs hlocks (fun t _ h1 h2 => ⟨(), trivial, hP, Nat.le_trans hS.1 h1, fun q hq _ => (h2 q (Nat.lt_of_lt_of_le hq hS.1)).trans (hU q hq)⟩) hS.2.2 hc hs
theorem hatI (hA9 : ∀ w ∈ WA, w.before args s = true) (hE : EV A s s.heap) : ∀ w ∈ vx_atS RL 41 eI eR, w.before args s = true := by
  obtain ⟨-, -, -, -, -, -, -, -, -, c1, c2, -, c4, c5, c6⟩ := hE
  exact vx_hat (B := [.castable eI eI, .declares (Bundle.initS "java/lang/RuntimeException"), .declares (Bundle.initS "java/lang/Exception"), .declares (Bundle.initS Bundle.tN)]) (fun w h => hA9 w (mx_I w h)) (by decide +kernel) (vx_c (va_Nw.use rfl c1) (vx_c (va_Nw.use rfl c4) (vx_c (va_Nw.use rfl c5) (vx_c (va_Nw.use rfl c6) vx_n))))
theorem hatN (hA9 : ∀ w ∈ WA, w.before args s = true) (hE : EV A s s.heap) : ∀ w ∈ nAtS, w.before args s = true := by
  obtain ⟨-, -, -, -, -, -, -, -, -, c1, c2, -, c4, c5, c6⟩ := hE
  exact vx_hat (B := [.castable eN eN, .declares (Bundle.initS "java/lang/RuntimeException"), .declares (Bundle.initS "java/lang/Exception"), .declares (Bundle.initS Bundle.tN)]) (fun w h => hA9 w (mx_N w h)) (by decide +kernel) (vx_c (va_Nw.use rfl c2) (vx_c (va_Nw.use rfl c4) (vx_c (va_Nw.use rfl c5) (vx_c (va_Nw.use rfl c6) vx_n))))
theorem hgdI : ∀ w ∈ Cond.classLink RL 37 eI :: Cond.initialized eI :: vx_atS RL 41 eI eR, vx_ot w = true := by decide +kernel
theorem hgdN : ∀ w ∈ Cond.classLink RL 50 eN :: Cond.initialized eN :: nAtS, vx_ot w = true := by decide +kernel
/-- a check that was called: it returns and nothing old has changed, or it throws, and so does the caller -/
theorem chk {N : Nat} {ad : Nat → Nat} {ce : Nat → va_E} {D : va_G} {post : Unit → Prop} {P0 : String → Prop} {m1 s1 : Nat} {st0 : List Value} {a : Array Value} (hlocks : meth.locks = false) (ht : ∀ x ∈ c.exceptionTable.toList, False) (hr : vx_Run p l e R s m args below meth c H locs cells slots m1 s1 (F0 m pc ls st0) rest (va_Qv post (fun _ _ => True) (fun _ => False) a) (XK P0) (AW N ad H.size)) (hS : va_S A s.heap H locs) (hP : va_P D CLS (wx N ad ce) H) (hD : va_D A (wx N ad ce)) (hA : ∀ q, s.heap.size ≤ q → A q) (hU : ∀ q : Nat, q < s.heap.size → H[q]? = s.heap[q]?)
    (hx : ∀ E, P0 E → P E) (hc : cells + m1 ≤ mc) (hs : slots + s1 ≤ ms)
    (kk : ∀ (H : Heap) (locs : List Loc), post () → va_P D CLS (wx N ad ce) H → va_S A s.heap H locs → (∀ q : Nat, q < s.heap.size → H[q]? = s.heap[q]?) → W p l e R s m args below meth c H locs (cells + m1) (slots + s1) (vx_MQ below Qc (XK P) args s mc ms A) (F0 m (pc + 3) ls rest)) : W p l e R s m args below meth c H locs cells slots (vx_MQ below Qc (XK P) args s mc ms A) (F0 m pc ls st0) :=
  vx_callv hr hS (fun _ _ h => h.elim) (aw_in hD hS hA) (fun _ _ h => h.elim)
    (fun E ce q9 u t H1 locs1 _ _ _ hB hz hk hS1 hce hcv hcl => vx_out (fun x h => (ht x h).elim) hlocks hce hcv hcl (fun t2 ht2 _ => ⟨(), trivial, hx E hB, by rw [ht2]; exact hS1.1, fun q hq _ => by rw [ht2, hk q (Nat.lt_of_lt_of_le hq hS.1) (fun z => z)]; exact hU q hq⟩) hS1.2.2 hc hs)
    (fun u t H1 locs1 _ _ hp _ hz hk hS1 => kk H1 locs1 hp (hP.kept (fun k q hq => hk q.1 ((hP k q hq).lt) (fun z => z))) hS1 (fun q hq => (hk q (Nat.lt_of_lt_of_le hq hS.1) (fun z => z)).trans (hU q hq)))
end
