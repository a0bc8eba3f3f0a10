/-! the law's helpers -/
theorem metH {l : Launch} {y : MethodName} {ws ws' : List Cond} {rm : Room} {Pc : Array Value → State → Prop} {Qc : Array Value → State → Outcome → State → Prop} {mc ms : Nat} {free : Addr → Prop} {cc : ByteArray} {maxL : Nat} {ret : Option FieldType} {hh : List (Nat × Nat × Nat × Nat)}
    (hy : plainName y.cls = true) (hw : ws = Cond.codeWith y cc maxL ret hh :: ws')
    (body : ∀ p e s m args below meth c s₁, BodyLoose p l y (headSpec ws rm) cc maxL ret e s m args below meth c s₁ → c.maxLocals = maxL → Pc args s →
      W p l e (headSpec ws rm).room s m args below meth c s.heap [] 0 0 (MQ below Qc args s mc ms free) (entryFrame m args maxL)) : Met l y ws rm Pc Qc mc ms free := by
  refine MetFree.of_bodyS (code := cc) (maxLocals := maxL) (ret := ret) hy ?_ ?_
  · intro args s m h hn
    obtain ⟨m9, meth, c, hn9, h1, h2, h3, h4, -, h5, h6, -⟩ := Cond.codeWith_spec (atoms_spec (ws := ws) h _ (by rw [hw]; exact List.mem_cons_self))
    cases hn.symm.trans hn9
    exact ⟨meth, c, h1, h2, h3, h4, h5, h6⟩
  · intro p e s m args below meth c s₁ B hml hP _
    have hh0 : s₁.heap = s.heap := by rw [B.state]; rfl
    obtain ⟨t, a1, o, b1, b2, b3⟩ := body p e s m args below meth c s₁ B hml hP s₁ hh0 (Stand.of_body B)
    exact ⟨t, o, a1, b1, b2, ⟨b3.1, b3.2⟩⟩
section
variable {p : Program} {l : Launch} {e : Env} {R : Room} {s : State} {m : MethodId} {args : Array Value} {below : List Frame} {meth : Method} {c : Code} {H H0 : Heap} {locs : List Loc} {cells slots mc ms pc : Nat} {Q : State → Prop} {D : va_G} {ty : List (ClassId × FieldType)} {N : Nat} {ad : Nat → Nat} {ce : Nat → va_E} {A : Nat → Prop} {ls : Array Slot} {rest st0 : List Value} {a : Array Value}
theorem hcall {post : Int32 → (Nat → va_E) → Prop} {P0 : String → Prop} (hr : vx_Run p l e R s m args below meth c H locs cells slots mc ms (F0 m pc ls st0) rest (va_Qi post (BW D ty N ad (AW N ad H.size)) (AW N ad H.size) a) (XK P0) (AW N ad H.size)) (hS : va_S A H0 H locs) (hP : va_P D CLS (wx N ad ce) H) (hD : va_D A (wx N ad ce)) (hA : ∀ q, H0.size ≤ q → A q)
    (kx : ∀ (E : String) (cell : Cell) (q : Addr) (H : Heap) (locs : List Loc), P0 E → va_P D CLS (wx N ad ce) H → va_S A H0 H locs → H[q]? = some cell → cell.vm = .none → s.vm.findClass E = some cell.cls → vx_W p l e R s m args below meth c H locs (cells + mc) (slots + ms) Q (F0 m pc ls rest) q)
    (kk : ∀ (r : Int32) (ce1 : Nat → va_E) (H : Heap) (locs : List Loc), post r ce1 → va_P D CLS (wx N ad ce1) H → va_D A (wx N ad ce1) → va_S A H0 H locs → W p l e R s m args below meth c H locs (cells + mc) (slots + ms) Q (F0 m (pc + 3) ls (.int r :: rest))) : W p l e R s m args below meth c H locs cells slots Q (F0 m pc ls st0) :=
  vx_calli hr hS (fun q _ h => aw_in hD hS hA q h) (aw_in hD hS hA) (fun _ _ h => h.elim)
    (fun E cell q9 u t H1 locs1 _ _ _ hB hz hk hS1 hce hcv hcl => kx E cell q9 H1 locs1 hB (hP.kept (fun k q hq => hk q.1 ((hP k q hq).lt) (fun z => z))) hS1 hce hcv hcl)
    (fun r u t H1 locs1 ht hvm hw hB hz hk hS1 => kk r u H1 locs1 hw (by rw [← ht]; exact hB.1) (hB.2.2.weaken (fun _ q _ h => aw_in hD hS hA q.1 h)) hS1)
end

set_option maxHeartbeats 4000000 in
set_option maxRecDepth 100000 in
theorem c_W_add (l : Launch) (hlt : l.stackTraces = false) (D : va_G) (cI cO cJ : ClassId) (ad : Nat → Nat) (ce : Nat → va_E) (sz : Nat) (rl gc : Nat) (h0 : ce 0 = .inr (2, [.ref (ad 1), .ref (ad 2), .ref (ad 33), .int (nI rl), .int (nI gc)])) (row : Nat → Int32) (h1 : ce 1 = .inl (cI, 4000, .inl row)) (hrl : rl ≤ 3997) (g : Nat → Int64) (ho : ce 40 = .inl (cJ, 1, .inr (.inl g))) (a1 a2 a3 : Int32) : Met l yW_add (.codeWith yW_add bW_add 6 (some .int) [(0, 12, 15, 13)] :: WA) ({ frames := 1, cells := 0, slots := 0, locals := 23 }) (PX D (TY cI cO cJ) 41 ad ce sz [.ref (ad 0), .int (a1), .int (a2), .int (a3), .ref (ad 40)]) (va_Qi (fun (r : Int32) (ce1 : Nat → va_E) => (r = nI 0 ∧ ∃ (r1 : Int32) (ce2 : Nat → va_E) (g1 : Nat → Int64), (r1 = nI (rl + 3) ∧ (∀ j, j ≠ 0 → j ≠ 1 → ce2 j = ce j) ∧ ce2 0 = .inr (2, [.ref (ad 1), .ref (ad 2), .ref (ad 33), .int (nI (rl + 3)), .int (nI gc)]) ∧ ce2 1 = .inl (cI, 4000, .inl (upd (upd (upd row rl (nI (m9 a1))) (rl + 1) (nI (m9 a2))) (rl + 2) (nI (m9 a3))))) ∧ (∀ j, j ≠ 40 → ce1 j = ce2 j) ∧ ce1 40 = .inl (cJ, 1, .inr (.inl g1)) ∧ g1 0 = r1.toInt64)) (BW D (TY cI cO cJ) 41 ad (AW 41 ad sz)) (AW 41 ad sz)) 0 0 (AW 41 ad sz) := by
  refine metH (cc := bW_add) (maxL := 6) (ret := some .int) (hh := [(0, 12, 15, 13)]) (by decide) rfl ?_
  intro p e s m args below meth c s₁ B hml hv
  obtain ⟨rfl, hsz, hP, hK, hD0, hE⟩ := hv
  have hx := B.exec
  have hb := B.bytes
  have hr := B.returns
  have hA9 : ∀ w ∈ WA, w.before _ s = true := fun w h => atoms_spec (ws := .codeWith yW_add bW_add 6 (some .int) [(0, 12, 15, 13)] :: WA) B.pre w (List.mem_cons_of_mem _ h)
  have hown : s.vm.findClass RW = some m.cls := findClass_of_methodNamed B.named
  have htab : c.exceptionTable.toList = tableOf [(0, 12, 15, 13)] := vx_table (x := yW_add) B (hA9 _ mkW_add)
  subst hsz
  have hD := aw_D (sz := s.heap.size) hD0
  generalize hAe : AW 41 ad s.heap.size = A at hD hE ⊢
  have hA : ∀ q, s.heap.size ≤ q → A q := fun q h => by rw [← hAe]; exact Or.inr h
  clear hAe hD0
  obtain ⟨-, -, -, -, -, -, -, -, -, c1, c2, c3, -⟩ := id hE
  have hl := lv_entry ([.ref (ad 0), .int (a1), .int (a2), .int (a3), .ref (ad 40)]) (n := 6) (Nat.le_of_ble_eq_true rfl)
  rw [lg_entry_eq]
  generalize (lg_sl ([.ref (ad 0), .int (a1), .int (a2), .int (a3), .ref (ad 40)]) ++ List.replicate (6 - (lg_sl ([.ref (ad 0), .int (a1), .int (a2), .int (a3), .ref (ad 40)])).length) Slot.unset).toArray = ls at hl ⊢
  have hl : lv_has ls 6 [(0, .ref (ad 0)), (1, .int (a1)), (2, .int (a2)), (3, .int (a3)), (4, .ref (ad 40))] := hl
  refine st0 (A := A) (fun H locs hS hH => ?_)
  rw [← hH] at hP
  clear hH
  refine lv_aload hx hb dW_add_0 (lv_at hl 4 rfl) ?_
  refine lv_iconst (v := nI 0) hx hb dW_add_2 (by decide +kernel) ?_
  refine lv_aload_n hx hb dW_add_3 rfl (lv_at hl 0 rfl) ?_
  refine lv_iload_n hx hb dW_add_4 rfl (lv_at hl 1 rfl) ?_
  refine lv_iload_n hx hb dW_add_5 rfl (lv_at hl 2 rfl) ?_
  refine lv_iload_n hx hb dW_add_6 rfl (lv_at hl 3 rfl) ?_
  refine cvi (va_runV (As := [.int (a1), .int (a2), .int (a3)]) (rest := [.int (nI 0), .ref (ad 40)]) ⟨hx, hb, hml, hown, hA9⟩ (c_L_add l D cI cO cJ 41 ad ce _ (by omega) rl gc h0 row h1 hrl a1 a2 a3) (cwV 3 hA9 (gV mlW_7 miL_add msL_add mn_L mkL_add) rfl rfl rfl (by decide +kernel) ⟨Nat.le_of_ble_eq_true rfl, Nat.le_of_ble_eq_true rfl⟩) ⟨PM_bl, wx_recv hK hP (by omega) h0 rfl, PM_mk hK hP hD⟩ rfl rfl hl.1 rfl (lv_room (Nat.le_of_ble_eq_true rfl)) dW_add_7 ⟨Nat.le_of_ble_eq_true rfl, Nat.le_of_ble_eq_true rfl⟩) hS hD hA (fun r1 ce2 H locs hpost hP hD hS => ?_)
  have e40 : ce2 40 = .inl (cJ, 1, .inr (.inl g)) := (hpost.2.1 40 (by omega) (by omega)).trans ho
  refine lv_i2l (v := r1.toInt64) hx hb dW_add_10 rfl ?_
  refine va_last hx hb hK hP hD hS 40 2 (wx_at (by omega) e40) rfl (i := nI 0) (inN) dW_add_11 (fun H locs hP hD hS => ?_)
  rw [clN (a := 0)] at hP hD
  obtain ⟨ce3, h39⟩ : ∃ z9, z9 = va_up ce2 40 (.inl (cJ, 1, .inr (.inl (vp_updL g 0 r1.toInt64)))) := ⟨_, rfl⟩
  rw [wx_set (by omega), ← h39] at hP hD
  refine lv_goto (tgt := 19) hx hb dW_add_12 (by decide) ?_
  refine lv_iconst (v := nI 0) hx hb dW_add_19 (by decide +kernel) ?_
  exact W.iret (v := nI 0) hx hb hr (fun t ht hW => ⟨⟨nI 0, ce3, rfl, ⟨rfl, r1, ce2, vp_updL g 0 r1.toInt64, hpost, fun j hj => by rw [h39, va_up_ne _ _ hj], by rw [h39, va_up_self], if_pos rfl⟩, by rw [ht]; exact hP, va_K.moved hW.alike hK, hD⟩, hS.F ht⟩) hS.2.2 dW_add_20

set_option maxHeartbeats 4000000 in
set_option maxRecDepth 100000 in
theorem c_W_cut (l : Launch) (hlt : l.stackTraces = false) (D : va_G) (cI cO cJ : ClassId) (ad : Nat → Nat) (ce : Nat → va_E) (sz : Nat) (rl gc : Nat) (h0 : ce 0 = .inr (2, [.ref (ad 1), .ref (ad 2), .ref (ad 33), .int (nI rl), .int (nI gc)])) (hrl : rl ≤ 4000) (g : Nat → Int64) (ho : ce 40 = .inl (cJ, 1, .inr (.inl g))) (x : Int32) : Met l yW_cut (.codeWith yW_cut bW_cut 4 (some .int) [(0, 9, 12, 19)] :: WA) ({ frames := 7, cells := 1, slots := 6, locals := 111 }) (PX D (TY cI cO cJ) 41 ad ce sz [.ref (ad 0), .int (x), .ref (ad 40)]) (va_Qi (fun (r : Int32) (ce1 : Nat → va_E) => (r = nI 0 ∧ ∃ (r1 : Int32) (ce2 : Nat → va_E) (g1 : Nat → Int64), (∃ k, k ≤ rl ∧ x = nI k ∧ r1 = nI k ∧ (∀ j, j ≠ 0 → ce2 j = ce j) ∧ ce2 0 = .inr (2, [.ref (ad 1), .ref (ad 2), .ref (ad 33), .int (nI k), .int (nI gc)])) ∧ (∀ j, j ≠ 40 → ce1 j = ce2 j) ∧ ce1 40 = .inl (cJ, 1, .inr (.inl g1)) ∧ g1 0 = r1.toInt64) ∨ (r = nI 1 ∧ ce1 = ce ∧ (¬ (∃ k, k ≤ rl ∧ x = nI k)))) (BW D (TY cI cO cJ) 41 ad (AW 41 ad sz)) (AW 41 ad sz)) 1 6 (AW 41 ad sz) := by
  refine metH (cc := bW_cut) (maxL := 4) (ret := some .int) (hh := [(0, 9, 12, 19)]) (by decide) rfl ?_
  intro p e s m args below meth c s₁ B hml hv
  obtain ⟨rfl, hsz, hP, hK, hD0, hE⟩ := hv
  have hx := B.exec
  have hb := B.bytes
  have hr := B.returns
  have hA9 : ∀ w ∈ WA, w.before _ s = true := fun w h => atoms_spec (ws := .codeWith yW_cut bW_cut 4 (some .int) [(0, 9, 12, 19)] :: WA) B.pre w (List.mem_cons_of_mem _ h)
  have hown : s.vm.findClass RW = some m.cls := findClass_of_methodNamed B.named
  have htab : c.exceptionTable.toList = tableOf [(0, 9, 12, 19)] := vx_table (x := yW_cut) B (hA9 _ mkW_cut)
  subst hsz
  have hD := aw_D (sz := s.heap.size) hD0
  generalize hAe : AW 41 ad s.heap.size = A at hD hE ⊢
  have hA : ∀ q, s.heap.size ≤ q → A q := fun q h => by rw [← hAe]; exact Or.inr h
  clear hAe hD0
  obtain ⟨-, -, -, -, -, -, -, -, -, c1, c2, c3, -⟩ := id hE
  have hl := lv_entry ([.ref (ad 0), .int (x), .ref (ad 40)]) (n := 4) (Nat.le_of_ble_eq_true rfl)
  rw [lg_entry_eq]
  generalize (lg_sl ([.ref (ad 0), .int (x), .ref (ad 40)]) ++ List.replicate (4 - (lg_sl ([.ref (ad 0), .int (x), .ref (ad 40)])).length) Slot.unset).toArray = ls at hl ⊢
  have hl : lv_has ls 4 [(0, .ref (ad 0)), (1, .int (x)), (2, .ref (ad 40))] := hl
  refine st0 (A := A) (fun H locs hS hH => ?_)
  rw [← hH] at hP
  clear hH
  refine lv_aload_n hx hb dW_cut_0 rfl (lv_at hl 2 rfl) ?_
  refine lv_iconst (v := nI 0) hx hb dW_cut_1 (by decide +kernel) ?_
  refine lv_aload_n hx hb dW_cut_2 rfl (lv_at hl 0 rfl) ?_
  refine lv_iload_n hx hb dW_cut_3 rfl (lv_at hl 1 rfl) ?_
  refine hcall (vx_runV (As := [.int (x)]) (rest := [.int (nI 0), .ref (ad 40)]) ⟨hx, hb, hml, hown, hA9⟩ (c_L_cut l hlt D cI cO cJ 41 ad ce _ (by omega) rl gc hrl h0 x) (cwV 1 hA9 (gV mlW_15 miL_cut msL_cut mn_L mkL_cut) rfl rfl rfl (by decide +kernel) ⟨Nat.le_of_ble_eq_true rfl, Nat.le_of_ble_eq_true rfl⟩) ⟨PX_bl, wx_recv hK hP (by omega) h0 rfl, PX_mk hK hP hD hE hS hA⟩ rfl rfl hl.1 rfl (lv_room (Nat.le_of_ble_eq_true rfl)) dW_cut_4 ⟨Nat.le_of_ble_eq_true rfl, Nat.le_of_ble_eq_true rfl⟩) hS hP hD hA (fun E cell q H locs hpx hP hS k1 k2 k3 => ?_) (fun r1 ce2 H locs hpost hP hD hS => ?_)
  · skip
    obtain ⟨rfl, hno⟩ := hpx
    refine cx_catch (own := RW) (name := eI) hown [] ⟨0, 9, 12, 19⟩ [] htab (fun y hy => nomatch hy) (by decide) (by decide) (hA9 _ mcW_19) (va_Nw.use rfl c1) k1 k2 k3 ?_
    refine lv_astore_n (lv' := [(3, .ref q), (0, .ref (ad 0)), (1, .int (x)), (2, .ref (ad 40))]) hx hb dW_cut_12 rfl hl (by decide) rfl (fun ls hl => ?_)
    refine lv_iconst (v := nI 1) hx hb dW_cut_13 (by decide +kernel) ?_
    exact W.iret (v := nI 1) hx hb hr (fun t ht hW => ⟨⟨nI 1, ce, rfl, Or.inr (⟨rfl, rfl, hno⟩), by rw [ht]; exact hP, va_K.moved hW.alike hK, hD⟩, hS.F ht⟩) hS.2.2 dW_cut_14
  · skip
    have e40 : ce2 40 = .inl (cJ, 1, .inr (.inl g)) := by obtain ⟨k, -, -, -, h9, -⟩ := hpost; exact (h9 40 (by omega)).trans ho
    refine lv_i2l (v := r1.toInt64) hx hb dW_cut_7 rfl ?_
    refine va_last hx hb hK hP hD hS 40 2 (wx_at (by omega) e40) rfl (i := nI 0) (inN) dW_cut_8 (fun H locs hP hD hS => ?_)
    rw [clN (a := 0)] at hP hD
    obtain ⟨ce3, h39⟩ : ∃ z9, z9 = va_up ce2 40 (.inl (cJ, 1, .inr (.inl (vp_updL g 0 r1.toInt64)))) := ⟨_, rfl⟩
    rw [wx_set (by omega), ← h39] at hP hD
    refine lv_goto (tgt := 15) hx hb dW_cut_9 (by decide) ?_
    refine lv_iconst (v := nI 0) hx hb dW_cut_15 (by decide +kernel) ?_
    exact W.iret (v := nI 0) hx hb hr (fun t ht hW => ⟨⟨nI 0, ce3, rfl, Or.inl ⟨rfl, r1, ce2, vp_updL g 0 r1.toInt64, hpost, fun j hj => by rw [h39, va_up_ne _ _ hj], by rw [h39, va_up_self], if_pos rfl⟩, by rw [ht]; exact hP, va_K.moved hW.alike hK, hD⟩, hS.F ht⟩) hS.2.2 dW_cut_16

set_option maxHeartbeats 4000000 in
set_option maxRecDepth 100000 in
theorem c_W_at (l : Launch) (hlt : l.stackTraces = false) (D : va_G) (cI cO cJ : ClassId) (ad : Nat → Nat) (ce : Nat → va_E) (sz : Nat) (os : Nat → Nat → Nat) (n : Nat) (hT : TR cI cO ad ce os n) (rl gc : Nat) (h0 : ce 0 = .inr (2, [.ref (ad 1), .ref (ad 2), .ref (ad 33), .int (nI rl), .int (nI gc)])) (f : Nat → Nat) (hW : WM f n os) (hf : ∀ i, i < n → f i < 512) (g : Nat → Int64) (ho : ce 40 = .inl (cJ, 1, .inr (.inl g))) (x : Int32) : Met l yW_at (.codeWith yW_at bW_at 4 (some .int) [(0, 9, 12, 24)] :: WA) ({ frames := 7, cells := 1, slots := 6, locals := 111 }) (PX D (TY cI cO cJ) 41 ad ce sz [.ref (ad 0), .int (x), .ref (ad 40)]) (va_Qi (fun (r : Int32) (ce1 : Nat → va_E) => (r = nI 0 ∧ ∃ (r1 : Int32) (ce2 : Nat → va_E) (g1 : Nat → Int64), (ce2 = ce ∧ ∃ k, k < n ∧ x = nI k ∧ r1 = nI (f k)) ∧ (∀ j, j ≠ 40 → ce1 j = ce2 j) ∧ ce1 40 = .inl (cJ, 1, .inr (.inl g1)) ∧ g1 0 = r1.toInt64) ∨ (r = nI 1 ∧ ce1 = ce ∧ (¬ (∃ k, k < n ∧ x = nI k)))) (BW D (TY cI cO cJ) 41 ad (AW 41 ad sz)) (AW 41 ad sz)) 1 6 (AW 41 ad sz) := by
  refine metH (cc := bW_at) (maxL := 4) (ret := some .int) (hh := [(0, 9, 12, 24)]) (by decide) rfl ?_
  intro p e s m args below meth c s₁ B hml hv
  obtain ⟨rfl, hsz, hP, hK, hD0, hE⟩ := hv
  have hx := B.exec
  have hb := B.bytes
  have hr := B.returns
  have hA9 : ∀ w ∈ WA, w.before _ s = true := fun w h => atoms_spec (ws := .codeWith yW_at bW_at 4 (some .int) [(0, 9, 12, 24)] :: WA) B.pre w (List.mem_cons_of_mem _ h)
  have hown : s.vm.findClass RW = some m.cls := findClass_of_methodNamed B.named
  have htab : c.exceptionTable.toList = tableOf [(0, 9, 12, 24)] := vx_table (x := yW_at) B (hA9 _ mkW_at)
  subst hsz
  have hD := aw_D (sz := s.heap.size) hD0
  generalize hAe : AW 41 ad s.heap.size = A at hD hE ⊢
  have hA : ∀ q, s.heap.size ≤ q → A q := fun q h => by rw [← hAe]; exact Or.inr h
  clear hAe hD0
  obtain ⟨-, -, -, -, -, -, -, -, -, c1, c2, c3, -⟩ := id hE
  have hl := lv_entry ([.ref (ad 0), .int (x), .ref (ad 40)]) (n := 4) (Nat.le_of_ble_eq_true rfl)
  rw [lg_entry_eq]
  generalize (lg_sl ([.ref (ad 0), .int (x), .ref (ad 40)]) ++ List.replicate (4 - (lg_sl ([.ref (ad 0), .int (x), .ref (ad 40)])).length) Slot.unset).toArray = ls at hl ⊢
  have hl : lv_has ls 4 [(0, .ref (ad 0)), (1, .int (x)), (2, .ref (ad 40))] := hl
  refine st0 (A := A) (fun H locs hS hH => ?_)
  rw [← hH] at hP
  clear hH
  refine lv_aload_n hx hb dW_at_0 rfl (lv_at hl 2 rfl) ?_
  refine lv_iconst (v := nI 0) hx hb dW_at_1 (by decide +kernel) ?_
  refine lv_aload_n hx hb dW_at_2 rfl (lv_at hl 0 rfl) ?_
  refine lv_iload_n hx hb dW_at_3 rfl (lv_at hl 1 rfl) ?_
  refine hcall (vx_runV (As := [.int (x)]) (rest := [.int (nI 0), .ref (ad 40)]) ⟨hx, hb, hml, hown, hA9⟩ (c_L_at l hlt D cI cO cJ 41 ad ce _ (by omega) os n hT rl gc h0 f hW hf x) (cwV 1 hA9 (gV mlW_21 miL_at msL_at mn_L mkL_at) rfl rfl rfl (by decide +kernel) ⟨Nat.le_of_ble_eq_true rfl, Nat.le_of_ble_eq_true rfl⟩) ⟨PX_bl, wx_recv hK hP (by omega) h0 rfl, PX_mk hK hP hD hE hS hA⟩ rfl rfl hl.1 rfl (lv_room (Nat.le_of_ble_eq_true rfl)) dW_at_4 ⟨Nat.le_of_ble_eq_true rfl, Nat.le_of_ble_eq_true rfl⟩) hS hP hD hA (fun E cell q H locs hpx hP hS k1 k2 k3 => ?_) (fun r1 ce2 H locs hpost hP hD hS => ?_)
  · skip
    obtain ⟨rfl, hno⟩ := hpx
    refine cx_catch (own := RW) (name := eN) hown [] ⟨0, 9, 12, 24⟩ [] htab (fun y hy => nomatch hy) (by decide) (by decide) (hA9 _ mcW_24) (va_Nw.use rfl c2) k1 k2 k3 ?_
    refine lv_astore_n (lv' := [(3, .ref q), (0, .ref (ad 0)), (1, .int (x)), (2, .ref (ad 40))]) hx hb dW_at_12 rfl hl (by decide) rfl (fun ls hl => ?_)
    refine lv_iconst (v := nI 1) hx hb dW_at_13 (by decide +kernel) ?_
    exact W.iret (v := nI 1) hx hb hr (fun t ht hW => ⟨⟨nI 1, ce, rfl, Or.inr (⟨rfl, rfl, hno⟩), by rw [ht]; exact hP, va_K.moved hW.alike hK, hD⟩, hS.F ht⟩) hS.2.2 dW_at_14
  · skip
    have e40 : ce2 40 = .inl (cJ, 1, .inr (.inl g)) := (congrFun hpost.1 40).trans ho
    refine lv_i2l (v := r1.toInt64) hx hb dW_at_7 rfl ?_
    refine va_last hx hb hK hP hD hS 40 2 (wx_at (by omega) e40) rfl (i := nI 0) (inN) dW_at_8 (fun H locs hP hD hS => ?_)
    rw [clN (a := 0)] at hP hD
    obtain ⟨ce3, h39⟩ : ∃ z9, z9 = va_up ce2 40 (.inl (cJ, 1, .inr (.inl (vp_updL g 0 r1.toInt64)))) := ⟨_, rfl⟩
    rw [wx_set (by omega), ← h39] at hP hD
    refine lv_goto (tgt := 15) hx hb dW_at_9 (by decide) ?_
    refine lv_iconst (v := nI 0) hx hb dW_at_15 (by decide +kernel) ?_
    exact W.iret (v := nI 0) hx hb hr (fun t ht hW => ⟨⟨nI 0, ce3, rfl, Or.inl ⟨rfl, r1, ce2, vp_updL g 0 r1.toInt64, hpost, fun j hj => by rw [h39, va_up_ne _ _ hj], by rw [h39, va_up_self], if_pos rfl⟩, by rw [ht]; exact hP, va_K.moved hW.alike hK, hD⟩, hS.F ht⟩) hS.2.2 dW_at_16

set_option maxHeartbeats 4000000 in
set_option maxRecDepth 100000 in
theorem c_W_often (l : Launch) (hlt : l.stackTraces = false) (D : va_G) (cI cO cJ : ClassId) (ad : Nat → Nat) (ce : Nat → va_E) (sz : Nat) (os : Nat → Nat → Nat) (n : Nat) (hT : TR cI cO ad ce os n) (rl gc : Nat) (h0 : ce 0 = .inr (2, [.ref (ad 1), .ref (ad 2), .ref (ad 33), .int (nI rl), .int (nI gc)])) (f : Nat → Nat) (hW : WM f n os) (hf : ∀ i, i < n → f i < 512) (g : Nat → Int64) (ho : ce 40 = .inl (cJ, 1, .inr (.inl g))) (x a b : Int32) : Met l yW_often (.codeWith yW_often bW_often 6 (some .int) [(0, 12, 15, 19)] :: WA) ({ frames := 8, cells := 2, slots := 12, locals := 135 }) (PX D (TY cI cO cJ) 41 ad ce sz [.ref (ad 0), .int (x), .int (a), .int (b), .ref (ad 40)]) (va_Qi (fun (r : Int32) (ce1 : Nat → va_E) => (r = nI 0 ∧ ∃ (r1 : Int32) (ce2 : Nat → va_E) (g1 : Nat → Int64), (ce2 = ce ∧ ∃ y u v, y < 512 ∧ u ≤ v ∧ v ≤ n ∧ x = nI y ∧ a = nI u ∧ b = nI v ∧ (r1 = nI (eq f y u v))) ∧ (∀ j, j ≠ 40 → ce1 j = ce2 j) ∧ ce1 40 = .inl (cJ, 1, .inr (.inl g1)) ∧ g1 0 = r1.toInt64) ∨ (r = nI 1 ∧ ce1 = ce ∧ (¬ QA 512 x a b n))) (BW D (TY cI cO cJ) 41 ad (AW 41 ad sz)) (AW 41 ad sz)) 2 12 (AW 41 ad sz) := by
  refine metH (cc := bW_often) (maxL := 6) (ret := some .int) (hh := [(0, 12, 15, 19)]) (by decide) rfl ?_
  intro p e s m args below meth c s₁ B hml hv
  obtain ⟨rfl, hsz, hP, hK, hD0, hE⟩ := hv
  have hx := B.exec
  have hb := B.bytes
  have hr := B.returns
  have hA9 : ∀ w ∈ WA, w.before _ s = true := fun w h => atoms_spec (ws := .codeWith yW_often bW_often 6 (some .int) [(0, 12, 15, 19)] :: WA) B.pre w (List.mem_cons_of_mem _ h)
  have hown : s.vm.findClass RW = some m.cls := findClass_of_methodNamed B.named
  have htab : c.exceptionTable.toList = tableOf [(0, 12, 15, 19)] := vx_table (x := yW_often) B (hA9 _ mkW_often)
  subst hsz
  have hD := aw_D (sz := s.heap.size) hD0
  generalize hAe : AW 41 ad s.heap.size = A at hD hE ⊢
  have hA : ∀ q, s.heap.size ≤ q → A q := fun q h => by rw [← hAe]; exact Or.inr h
  clear hAe hD0
  obtain ⟨-, -, -, -, -, -, -, -, -, c1, c2, c3, -⟩ := id hE
  have hl := lv_entry ([.ref (ad 0), .int (x), .int (a), .int (b), .ref (ad 40)]) (n := 6) (Nat.le_of_ble_eq_true rfl)
  rw [lg_entry_eq]
  generalize (lg_sl ([.ref (ad 0), .int (x), .int (a), .int (b), .ref (ad 40)]) ++ List.replicate (6 - (lg_sl ([.ref (ad 0), .int (x), .int (a), .int (b), .ref (ad 40)])).length) Slot.unset).toArray = ls at hl ⊢
  have hl : lv_has ls 6 [(0, .ref (ad 0)), (1, .int (x)), (2, .int (a)), (3, .int (b)), (4, .ref (ad 40))] := hl
  refine st0 (A := A) (fun H locs hS hH => ?_)
  rw [← hH] at hP
  clear hH
  refine lv_aload hx hb dW_often_0 (lv_at hl 4 rfl) ?_
  refine lv_iconst (v := nI 0) hx hb dW_often_2 (by decide +kernel) ?_
  refine lv_aload_n hx hb dW_often_3 rfl (lv_at hl 0 rfl) ?_
  refine lv_iload_n hx hb dW_often_4 rfl (lv_at hl 1 rfl) ?_
  refine lv_iload_n hx hb dW_often_5 rfl (lv_at hl 2 rfl) ?_
  refine lv_iload_n hx hb dW_often_6 rfl (lv_at hl 3 rfl) ?_
  refine hcall (vx_runV (As := [.int (x), .int (a), .int (b)]) (rest := [.int (nI 0), .ref (ad 40)]) ⟨hx, hb, hml, hown, hA9⟩ (c_L_often l hlt D cI cO cJ 41 ad ce _ (by omega) os n hT rl gc h0 f hW hf x a b) (cwV 3 hA9 (gV mlW_26 miL_often msL_often mn_L mkL_often) rfl rfl rfl (by decide +kernel) ⟨Nat.le_of_ble_eq_true rfl, Nat.le_of_ble_eq_true rfl⟩) ⟨PX_bl, wx_recv hK hP (by omega) h0 rfl, PX_mk hK hP hD hE hS hA⟩ rfl rfl hl.1 rfl (lv_room (Nat.le_of_ble_eq_true rfl)) dW_often_7 ⟨Nat.le_of_ble_eq_true rfl, Nat.le_of_ble_eq_true rfl⟩) hS hP hD hA (fun E cell q H locs hpx hP hS k1 k2 k3 => ?_) (fun r1 ce2 H locs hpost hP hD hS => ?_)
  · skip
    obtain ⟨rfl, hno⟩ := hpx
    refine cx_catch (own := RW) (name := eI) hown [] ⟨0, 12, 15, 19⟩ [] htab (fun y hy => nomatch hy) (by decide) (by decide) (hA9 _ mcW_19) (va_Nw.use rfl c1) k1 k2 k3 ?_
    refine lv_astore (lv' := [(5, .ref q), (0, .ref (ad 0)), (1, .int (x)), (2, .int (a)), (3, .int (b)), (4, .ref (ad 40))]) hx hb dW_often_15 hl (by decide) rfl (fun ls hl => ?_)
    refine lv_iconst (v := nI 1) hx hb dW_often_17 (by decide +kernel) ?_
    exact W.iret (v := nI 1) hx hb hr (fun t ht hW => ⟨⟨nI 1, ce, rfl, Or.inr (⟨rfl, rfl, hno⟩), by rw [ht]; exact hP, va_K.moved hW.alike hK, hD⟩, hS.F ht⟩) hS.2.2 dW_often_18
  · skip
    have e40 : ce2 40 = .inl (cJ, 1, .inr (.inl g)) := (congrFun hpost.1 40).trans ho
    refine lv_i2l (v := r1.toInt64) hx hb dW_often_10 rfl ?_
    refine va_last hx hb hK hP hD hS 40 2 (wx_at (by omega) e40) rfl (i := nI 0) (inN) dW_often_11 (fun H locs hP hD hS => ?_)
    rw [clN (a := 0)] at hP hD
    obtain ⟨ce3, h39⟩ : ∃ z9, z9 = va_up ce2 40 (.inl (cJ, 1, .inr (.inl (vp_updL g 0 r1.toInt64)))) := ⟨_, rfl⟩
    rw [wx_set (by omega), ← h39] at hP hD
    refine lv_goto (tgt := 19) hx hb dW_often_12 (by decide) ?_
    refine lv_iconst (v := nI 0) hx hb dW_often_19 (by decide +kernel) ?_
    exact W.iret (v := nI 0) hx hb hr (fun t ht hW => ⟨⟨nI 0, ce3, rfl, Or.inl ⟨rfl, r1, ce2, vp_updL g 0 r1.toInt64, hpost, fun j hj => by rw [h39, va_up_ne _ _ hj], by rw [h39, va_up_self], if_pos rfl⟩, by rw [ht]; exact hP, va_K.moved hW.alike hK, hD⟩, hS.F ht⟩) hS.2.2 dW_often_20

set_option maxHeartbeats 4000000 in
set_option maxRecDepth 100000 in
theorem c_W_below (l : Launch) (hlt : l.stackTraces = false) (D : va_G) (cI cO cJ : ClassId) (ad : Nat → Nat) (ce : Nat → va_E) (sz : Nat) (os : Nat → Nat → Nat) (n : Nat) (hT : TR cI cO ad ce os n) (rl gc : Nat) (h0 : ce 0 = .inr (2, [.ref (ad 1), .ref (ad 2), .ref (ad 33), .int (nI rl), .int (nI gc)])) (f : Nat → Nat) (hW : WM f n os) (hf : ∀ i, i < n → f i < 512) (g : Nat → Int64) (ho : ce 40 = .inl (cJ, 1, .inr (.inl g))) (x a b : Int32) : Met l yW_below (.codeWith yW_below bW_below 6 (some .int) [(0, 12, 15, 19)] :: WA) ({ frames := 8, cells := 2, slots := 12, locals := 135 }) (PX D (TY cI cO cJ) 41 ad ce sz [.ref (ad 0), .int (x), .int (a), .int (b), .ref (ad 40)]) (va_Qi (fun (r : Int32) (ce1 : Nat → va_E) => (r = nI 0 ∧ ∃ (r1 : Int32) (ce2 : Nat → va_E) (g1 : Nat → Int64), (ce2 = ce ∧ ∃ y u v, y < 513 ∧ u ≤ v ∧ v ≤ n ∧ x = nI y ∧ a = nI u ∧ b = nI v ∧ (r1 = nI (lq f y u v))) ∧ (∀ j, j ≠ 40 → ce1 j = ce2 j) ∧ ce1 40 = .inl (cJ, 1, .inr (.inl g1)) ∧ g1 0 = r1.toInt64) ∨ (r = nI 1 ∧ ce1 = ce ∧ (¬ QA 513 x a b n))) (BW D (TY cI cO cJ) 41 ad (AW 41 ad sz)) (AW 41 ad sz)) 2 12 (AW 41 ad sz) := by
  refine metH (cc := bW_below) (maxL := 6) (ret := some .int) (hh := [(0, 12, 15, 19)]) (by decide) rfl ?_
  intro p e s m args below meth c s₁ B hml hv
  obtain ⟨rfl, hsz, hP, hK, hD0, hE⟩ := hv
  have hx := B.exec
  have hb := B.bytes
  have hr := B.returns
  have hA9 : ∀ w ∈ WA, w.before _ s = true := fun w h => atoms_spec (ws := .codeWith yW_below bW_below 6 (some .int) [(0, 12, 15, 19)] :: WA) B.pre w (List.mem_cons_of_mem _ h)
  have hown : s.vm.findClass RW = some m.cls := findClass_of_methodNamed B.named
  have htab : c.exceptionTable.toList = tableOf [(0, 12, 15, 19)] := vx_table (x := yW_below) B (hA9 _ mkW_below)
  subst hsz
  have hD := aw_D (sz := s.heap.size) hD0
  generalize hAe : AW 41 ad s.heap.size = A at hD hE ⊢
  have hA : ∀ q, s.heap.size ≤ q → A q := fun q h => by rw [← hAe]; exact Or.inr h
  clear hAe hD0
  obtain ⟨-, -, -, -, -, -, -, -, -, c1, c2, c3, -⟩ := id hE
  have hl := lv_entry ([.ref (ad 0), .int (x), .int (a), .int (b), .ref (ad 40)]) (n := 6) (Nat.le_of_ble_eq_true rfl)
  rw [lg_entry_eq]
  generalize (lg_sl ([.ref (ad 0), .int (x), .int (a), .int (b), .ref (ad 40)]) ++ List.replicate (6 - (lg_sl ([.ref (ad 0), .int (x), .int (a), .int (b), .ref (ad 40)])).length) Slot.unset).toArray = ls at hl ⊢
  have hl : lv_has ls 6 [(0, .ref (ad 0)), (1, .int (x)), (2, .int (a)), (3, .int (b)), (4, .ref (ad 40))] := hl
  refine st0 (A := A) (fun H locs hS hH => ?_)
  rw [← hH] at hP
  clear hH
  refine lv_aload hx hb dW_below_0 (lv_at hl 4 rfl) ?_
  refine lv_iconst (v := nI 0) hx hb dW_below_2 (by decide +kernel) ?_
  refine lv_aload_n hx hb dW_below_3 rfl (lv_at hl 0 rfl) ?_
  refine lv_iload_n hx hb dW_below_4 rfl (lv_at hl 1 rfl) ?_
  refine lv_iload_n hx hb dW_below_5 rfl (lv_at hl 2 rfl) ?_
  refine lv_iload_n hx hb dW_below_6 rfl (lv_at hl 3 rfl) ?_
  refine hcall (vx_runV (As := [.int (x), .int (a), .int (b)]) (rest := [.int (nI 0), .ref (ad 40)]) ⟨hx, hb, hml, hown, hA9⟩ (c_L_below l hlt D cI cO cJ 41 ad ce _ (by omega) os n hT rl gc h0 f hW hf x a b) (cwV 3 hA9 (gV mlW_36 miL_below msL_below mn_L mkL_below) rfl rfl rfl (by decide +kernel) ⟨Nat.le_of_ble_eq_true rfl, Nat.le_of_ble_eq_true rfl⟩) ⟨PX_bl, wx_recv hK hP (by omega) h0 rfl, PX_mk hK hP hD hE hS hA⟩ rfl rfl hl.1 rfl (lv_room (Nat.le_of_ble_eq_true rfl)) dW_below_7 ⟨Nat.le_of_ble_eq_true rfl, Nat.le_of_ble_eq_true rfl⟩) hS hP hD hA (fun E cell q H locs hpx hP hS k1 k2 k3 => ?_) (fun r1 ce2 H locs hpost hP hD hS => ?_)
  · skip
    obtain ⟨rfl, hno⟩ := hpx
    refine cx_catch (own := RW) (name := eI) hown [] ⟨0, 12, 15, 19⟩ [] htab (fun y hy => nomatch hy) (by decide) (by decide) (hA9 _ mcW_19) (va_Nw.use rfl c1) k1 k2 k3 ?_
    refine lv_astore (lv' := [(5, .ref q), (0, .ref (ad 0)), (1, .int (x)), (2, .int (a)), (3, .int (b)), (4, .ref (ad 40))]) hx hb dW_below_15 hl (by decide) rfl (fun ls hl => ?_)
    refine lv_iconst (v := nI 1) hx hb dW_below_17 (by decide +kernel) ?_
    exact W.iret (v := nI 1) hx hb hr (fun t ht hW => ⟨⟨nI 1, ce, rfl, Or.inr (⟨rfl, rfl, hno⟩), by rw [ht]; exact hP, va_K.moved hW.alike hK, hD⟩, hS.F ht⟩) hS.2.2 dW_below_18
  · skip
    have e40 : ce2 40 = .inl (cJ, 1, .inr (.inl g)) := (congrFun hpost.1 40).trans ho
    refine lv_i2l (v := r1.toInt64) hx hb dW_below_10 rfl ?_
    refine va_last hx hb hK hP hD hS 40 2 (wx_at (by omega) e40) rfl (i := nI 0) (inN) dW_below_11 (fun H locs hP hD hS => ?_)
    rw [clN (a := 0)] at hP hD
    obtain ⟨ce3, h39⟩ : ∃ z9, z9 = va_up ce2 40 (.inl (cJ, 1, .inr (.inl (vp_updL g 0 r1.toInt64)))) := ⟨_, rfl⟩
    rw [wx_set (by omega), ← h39] at hP hD
    refine lv_goto (tgt := 19) hx hb dW_below_12 (by decide) ?_
    refine lv_iconst (v := nI 0) hx hb dW_below_19 (by decide +kernel) ?_
    exact W.iret (v := nI 0) hx hb hr (fun t ht hW => ⟨⟨nI 0, ce3, rfl, Or.inl ⟨rfl, r1, ce2, vp_updL g 0 r1.toInt64, hpost, fun j hj => by rw [h39, va_up_ne _ _ hj], by rw [h39, va_up_self], if_pos rfl⟩, by rw [ht]; exact hP, va_K.moved hW.alike hK, hD⟩, hS.F ht⟩) hS.2.2 dW_below_20

set_option maxHeartbeats 4000000 in
set_option maxRecDepth 100000 in
theorem c_W_before (l : Launch) (hlt : l.stackTraces = false) (D : va_G) (cI cO cJ : ClassId) (ad : Nat → Nat) (ce : Nat → va_E) (sz : Nat) (os : Nat → Nat → Nat) (n : Nat) (hT : TR cI cO ad ce os n) (rl gc : Nat) (h0 : ce 0 = .inr (2, [.ref (ad 1), .ref (ad 2), .ref (ad 33), .int (nI rl), .int (nI gc)])) (f : Nat → Nat) (hW : WM f n os) (hf : ∀ i, i < n → f i < 512) (g : Nat → Int64) (ho : ce 40 = .inl (cJ, 1, .inr (.inl g))) (x a b : Int32) : Met l yW_before (.codeWith yW_before bW_before 6 (some .int) [(0, 12, 15, 19)] :: WA) ({ frames := 8, cells := 2, slots := 12, locals := 136 }) (PX D (TY cI cO cJ) 41 ad ce sz [.ref (ad 0), .int (x), .int (a), .int (b), .ref (ad 40)]) (va_Qi (fun (r : Int32) (ce1 : Nat → va_E) => (r = nI 0 ∧ ∃ (r1 : Int32) (ce2 : Nat → va_E) (g1 : Nat → Int64), (ce2 = ce ∧ ∃ y u v, y < 512 ∧ u ≤ v ∧ v ≤ n ∧ x = nI y ∧ a = nI u ∧ b = nI v ∧ (∃ o, r1 = bI o ∧ BM f y u v o)) ∧ (∀ j, j ≠ 40 → ce1 j = ce2 j) ∧ ce1 40 = .inl (cJ, 1, .inr (.inl g1)) ∧ g1 0 = r1.toInt64) ∨ (r = nI 1 ∧ ce1 = ce ∧ (¬ QA 512 x a b n))) (BW D (TY cI cO cJ) 41 ad (AW 41 ad sz)) (AW 41 ad sz)) 2 12 (AW 41 ad sz) := by
  refine metH (cc := bW_before) (maxL := 6) (ret := some .int) (hh := [(0, 12, 15, 19)]) (by decide) rfl ?_
  intro p e s m args below meth c s₁ B hml hv
  obtain ⟨rfl, hsz, hP, hK, hD0, hE⟩ := hv
  have hx := B.exec
  have hb := B.bytes
  have hr := B.returns
  have hA9 : ∀ w ∈ WA, w.before _ s = true := fun w h => atoms_spec (ws := .codeWith yW_before bW_before 6 (some .int) [(0, 12, 15, 19)] :: WA) B.pre w (List.mem_cons_of_mem _ h)
  have hown : s.vm.findClass RW = some m.cls := findClass_of_methodNamed B.named
  have htab : c.exceptionTable.toList = tableOf [(0, 12, 15, 19)] := vx_table (x := yW_before) B (hA9 _ mkW_before)
  subst hsz
  have hD := aw_D (sz := s.heap.size) hD0
  generalize hAe : AW 41 ad s.heap.size = A at hD hE ⊢
  have hA : ∀ q, s.heap.size ≤ q → A q := fun q h => by rw [← hAe]; exact Or.inr h
  clear hAe hD0
  obtain ⟨-, -, -, -, -, -, -, -, -, c1, c2, c3, -⟩ := id hE
  have hl := lv_entry ([.ref (ad 0), .int (x), .int (a), .int (b), .ref (ad 40)]) (n := 6) (Nat.le_of_ble_eq_true rfl)
  rw [lg_entry_eq]
  generalize (lg_sl ([.ref (ad 0), .int (x), .int (a), .int (b), .ref (ad 40)]) ++ List.replicate (6 - (lg_sl ([.ref (ad 0), .int (x), .int (a), .int (b), .ref (ad 40)])).length) Slot.unset).toArray = ls at hl ⊢
  have hl : lv_has ls 6 [(0, .ref (ad 0)), (1, .int (x)), (2, .int (a)), (3, .int (b)), (4, .ref (ad 40))] := hl
  refine st0 (A := A) (fun H locs hS hH => ?_)
  rw [← hH] at hP
  clear hH
  refine lv_aload hx hb dW_before_0 (lv_at hl 4 rfl) ?_
  refine lv_iconst (v := nI 0) hx hb dW_before_2 (by decide +kernel) ?_
  refine lv_aload_n hx hb dW_before_3 rfl (lv_at hl 0 rfl) ?_
  refine lv_iload_n hx hb dW_before_4 rfl (lv_at hl 1 rfl) ?_
  refine lv_iload_n hx hb dW_before_5 rfl (lv_at hl 2 rfl) ?_
  refine lv_iload_n hx hb dW_before_6 rfl (lv_at hl 3 rfl) ?_
  refine hcall (vx_runV (As := [.int (x), .int (a), .int (b)]) (rest := [.int (nI 0), .ref (ad 40)]) ⟨hx, hb, hml, hown, hA9⟩ (c_L_before l hlt D cI cO cJ 41 ad ce _ (by omega) os n hT rl gc h0 f hW hf x a b) (cwV 3 hA9 (gV mlW_45 miL_before msL_before mn_L mkL_before) rfl rfl rfl (by decide +kernel) ⟨Nat.le_of_ble_eq_true rfl, Nat.le_of_ble_eq_true rfl⟩) ⟨PX_bl, wx_recv hK hP (by omega) h0 rfl, PX_mk hK hP hD hE hS hA⟩ rfl rfl hl.1 rfl (lv_room (Nat.le_of_ble_eq_true rfl)) dW_before_7 ⟨Nat.le_of_ble_eq_true rfl, Nat.le_of_ble_eq_true rfl⟩) hS hP hD hA (fun E cell q H locs hpx hP hS k1 k2 k3 => ?_) (fun r1 ce2 H locs hpost hP hD hS => ?_)
  · skip
    obtain ⟨rfl, hno⟩ := hpx
    refine cx_catch (own := RW) (name := eI) hown [] ⟨0, 12, 15, 19⟩ [] htab (fun y hy => nomatch hy) (by decide) (by decide) (hA9 _ mcW_19) (va_Nw.use rfl c1) k1 k2 k3 ?_
    refine lv_astore (lv' := [(5, .ref q), (0, .ref (ad 0)), (1, .int (x)), (2, .int (a)), (3, .int (b)), (4, .ref (ad 40))]) hx hb dW_before_15 hl (by decide) rfl (fun ls hl => ?_)
    refine lv_iconst (v := nI 1) hx hb dW_before_17 (by decide +kernel) ?_
    exact W.iret (v := nI 1) hx hb hr (fun t ht hW => ⟨⟨nI 1, ce, rfl, Or.inr (⟨rfl, rfl, hno⟩), by rw [ht]; exact hP, va_K.moved hW.alike hK, hD⟩, hS.F ht⟩) hS.2.2 dW_before_18
  · skip
    have e40 : ce2 40 = .inl (cJ, 1, .inr (.inl g)) := (congrFun hpost.1 40).trans ho
    refine lv_i2l (v := r1.toInt64) hx hb dW_before_10 rfl ?_
    refine va_last hx hb hK hP hD hS 40 2 (wx_at (by omega) e40) rfl (i := nI 0) (inN) dW_before_11 (fun H locs hP hD hS => ?_)
    rw [clN (a := 0)] at hP hD
    obtain ⟨ce3, h39⟩ : ∃ z9, z9 = va_up ce2 40 (.inl (cJ, 1, .inr (.inl (vp_updL g 0 r1.toInt64)))) := ⟨_, rfl⟩
    rw [wx_set (by omega), ← h39] at hP hD
    refine lv_goto (tgt := 19) hx hb dW_before_12 (by decide) ?_
    refine lv_iconst (v := nI 0) hx hb dW_before_19 (by decide +kernel) ?_
    exact W.iret (v := nI 0) hx hb hr (fun t ht hW => ⟨⟨nI 0, ce3, rfl, Or.inl ⟨rfl, r1, ce2, vp_updL g 0 r1.toInt64, hpost, fun j hj => by rw [h39, va_up_ne _ _ hj], by rw [h39, va_up_self], if_pos rfl⟩, by rw [ht]; exact hP, va_K.moved hW.alike hK, hD⟩, hS.F ht⟩) hS.2.2 dW_before_20

set_option maxHeartbeats 4000000 in
set_option maxRecDepth 100000 in
theorem c_W_place (l : Launch) (hlt : l.stackTraces = false) (D : va_G) (cI cO cJ : ClassId) (ad : Nat → Nat) (ce : Nat → va_E) (sz : Nat) (os : Nat → Nat → Nat) (n : Nat) (hT : TR cI cO ad ce os n) (rl gc : Nat) (h0 : ce 0 = .inr (2, [.ref (ad 1), .ref (ad 2), .ref (ad 33), .int (nI rl), .int (nI gc)])) (f : Nat → Nat) (hW : WM f n os) (hf : ∀ i, i < n → f i < 512) (g : Nat → Int64) (ho : ce 40 = .inl (cJ, 1, .inr (.inl g))) (x kx : Int32) : Met l yW_place (.codeWith yW_place bW_place 5 (some .int) [(0, 10, 13, 19), (0, 10, 17, 24)] :: WA) ({ frames := 8, cells := 2, slots := 12, locals := 135 }) (PX D (TY cI cO cJ) 41 ad ce sz [.ref (ad 0), .int (x), .int (kx), .ref (ad 40)]) (va_Qi (fun (r : Int32) (ce1 : Nat → va_E) => (r = nI 0 ∧ ∃ (r1 : Int32) (ce2 : Nat → va_E) (g1 : Nat → Int64), (ce2 = ce ∧ ∃ y i, y < 512 ∧ x = nI y ∧ i < n ∧ f i = y ∧ kx = nI (cn (fun j => decide (f j = y)) i) ∧ r1 = nI i) ∧ (∀ j, j ≠ 40 → ce1 j = ce2 j) ∧ ce1 40 = .inl (cJ, 1, .inr (.inl g1)) ∧ g1 0 = r1.toInt64) ∨ (r = nI 1 ∧ ce1 = ce ∧ (¬ ∃ y, y < 512 ∧ x = nI y)) ∨ (r = nI 2 ∧ ce1 = ce ∧ (∃ y, y < 512 ∧ x = nI y ∧ ¬ ∃ i, i < n ∧ f i = y ∧ kx = nI (cn (fun j => decide (f j = y)) i)))) (BW D (TY cI cO cJ) 41 ad (AW 41 ad sz)) (AW 41 ad sz)) 2 12 (AW 41 ad sz) := by
  refine metH (cc := bW_place) (maxL := 5) (ret := some .int) (hh := [(0, 10, 13, 19), (0, 10, 17, 24)]) (by decide) rfl ?_
  intro p e s m args below meth c s₁ B hml hv
  obtain ⟨rfl, hsz, hP, hK, hD0, hE⟩ := hv
  have hx := B.exec
  have hb := B.bytes
  have hr := B.returns
  have hA9 : ∀ w ∈ WA, w.before _ s = true := fun w h => atoms_spec (ws := .codeWith yW_place bW_place 5 (some .int) [(0, 10, 13, 19), (0, 10, 17, 24)] :: WA) B.pre w (List.mem_cons_of_mem _ h)
  have hown : s.vm.findClass RW = some m.cls := findClass_of_methodNamed B.named
  have htab : c.exceptionTable.toList = tableOf [(0, 10, 13, 19), (0, 10, 17, 24)] := vx_table (x := yW_place) B (hA9 _ mkW_place)
  subst hsz
  have hD := aw_D (sz := s.heap.size) hD0
  generalize hAe : AW 41 ad s.heap.size = A at hD hE ⊢
  have hA : ∀ q, s.heap.size ≤ q → A q := fun q h => by rw [← hAe]; exact Or.inr h
  clear hAe hD0
  obtain ⟨-, -, -, -, -, -, -, -, -, c1, c2, c3, -⟩ := id hE
  have hl := lv_entry ([.ref (ad 0), .int (x), .int (kx), .ref (ad 40)]) (n := 5) (Nat.le_of_ble_eq_true rfl)
  rw [lg_entry_eq]
  generalize (lg_sl ([.ref (ad 0), .int (x), .int (kx), .ref (ad 40)]) ++ List.replicate (5 - (lg_sl ([.ref (ad 0), .int (x), .int (kx), .ref (ad 40)])).length) Slot.unset).toArray = ls at hl ⊢
  have hl : lv_has ls 5 [(0, .ref (ad 0)), (1, .int (x)), (2, .int (kx)), (3, .ref (ad 40))] := hl
  refine st0 (A := A) (fun H locs hS hH => ?_)
  rw [← hH] at hP
  clear hH
  refine lv_aload_n hx hb dW_place_0 rfl (lv_at hl 3 rfl) ?_
  refine lv_iconst (v := nI 0) hx hb dW_place_1 (by decide +kernel) ?_
  refine lv_aload_n hx hb dW_place_2 rfl (lv_at hl 0 rfl) ?_
  refine lv_iload_n hx hb dW_place_3 rfl (lv_at hl 1 rfl) ?_
  refine lv_iload_n hx hb dW_place_4 rfl (lv_at hl 2 rfl) ?_
  refine hcall (vx_runV (As := [.int (x), .int (kx)]) (rest := [.int (nI 0), .ref (ad 40)]) ⟨hx, hb, hml, hown, hA9⟩ (c_L_place l hlt D cI cO cJ 41 ad ce _ (by omega) os n hT rl gc h0 f hW hf x kx) (cwV 2 hA9 (gV mlW_29 miL_place msL_place mn_L mkL_place) rfl rfl rfl (by decide +kernel) ⟨Nat.le_of_ble_eq_true rfl, Nat.le_of_ble_eq_true rfl⟩) ⟨PX_bl, wx_recv hK hP (by omega) h0 rfl, PX_mk hK hP hD hE hS hA⟩ rfl rfl hl.1 rfl (lv_room (Nat.le_of_ble_eq_true rfl)) dW_place_5 ⟨Nat.le_of_ble_eq_true rfl, Nat.le_of_ble_eq_true rfl⟩) hS hP hD hA (fun E cell q H locs hpx hP hS k1 k2 k3 => ?_) (fun r1 ce2 H locs hpost hP hD hS => ?_)
  · skip
    rcases hpx with ⟨rfl, hno⟩ | ⟨rfl, hno⟩
    · skip
      refine cx_catch (own := RW) (name := eI) hown [] ⟨0, 10, 13, 19⟩ [⟨0, 10, 17, 24⟩] htab (fun y hy => nomatch hy) (by decide) (by decide) (hA9 _ mcW_19) (va_Nw.use rfl c1) k1 k2 k3 ?_
      refine lv_astore (lv' := [(4, .ref q), (0, .ref (ad 0)), (1, .int (x)), (2, .int (kx)), (3, .ref (ad 40))]) hx hb dW_place_13 hl (by decide) rfl (fun ls hl => ?_)
      refine lv_iconst (v := nI 1) hx hb dW_place_15 (by decide +kernel) ?_
      exact W.iret (v := nI 1) hx hb hr (fun t ht hW => ⟨⟨nI 1, ce, rfl, Or.inr (Or.inl ⟨rfl, rfl, hno⟩), by rw [ht]; exact hP, va_K.moved hW.alike hK, hD⟩, hS.F ht⟩) hS.2.2 dW_place_16
    · skip
      refine cx_catch (own := RW) (name := eN) hown [⟨0, 10, 13, 19⟩] ⟨0, 10, 17, 24⟩ [] htab (fun y hy => by
          rw [List.mem_singleton.mp hy]; exact ⟨by decide, by decide, eI, hA9 _ mcW_19, c3⟩) (by decide) (by decide) (hA9 _ mcW_24) (va_Nw.use rfl c2) k1 k2 k3 ?_
      refine lv_astore (lv' := [(4, .ref q), (0, .ref (ad 0)), (1, .int (x)), (2, .int (kx)), (3, .ref (ad 40))]) hx hb dW_place_17 hl (by decide) rfl (fun ls hl => ?_)
      refine lv_iconst (v := nI 2) hx hb dW_place_19 (by decide +kernel) ?_
      exact W.iret (v := nI 2) hx hb hr (fun t ht hW => ⟨⟨nI 2, ce, rfl, Or.inr (Or.inr ⟨rfl, rfl, hno⟩), by rw [ht]; exact hP, va_K.moved hW.alike hK, hD⟩, hS.F ht⟩) hS.2.2 dW_place_20
  · skip
    have e40 : ce2 40 = .inl (cJ, 1, .inr (.inl g)) := (congrFun hpost.1 40).trans ho
    refine lv_i2l (v := r1.toInt64) hx hb dW_place_8 rfl ?_
    refine va_last hx hb hK hP hD hS 40 2 (wx_at (by omega) e40) rfl (i := nI 0) (inN) dW_place_9 (fun H locs hP hD hS => ?_)
    rw [clN (a := 0)] at hP hD
    obtain ⟨ce3, h39⟩ : ∃ z9, z9 = va_up ce2 40 (.inl (cJ, 1, .inr (.inl (vp_updL g 0 r1.toInt64)))) := ⟨_, rfl⟩
    rw [wx_set (by omega), ← h39] at hP hD
    refine lv_goto (tgt := 21) hx hb dW_place_10 (by decide) ?_
    refine lv_iconst (v := nI 0) hx hb dW_place_21 (by decide +kernel) ?_
    exact W.iret (v := nI 0) hx hb hr (fun t ht hW => ⟨⟨nI 0, ce3, rfl, Or.inl ⟨rfl, r1, ce2, vp_updL g 0 r1.toInt64, hpost, fun j hj => by rw [h39, va_up_ne _ _ hj], by rw [h39, va_up_self], if_pos rfl⟩, by rw [ht]; exact hP, va_K.moved hW.alike hK, hD⟩, hS.F ht⟩) hS.2.2 dW_place_22

set_option maxHeartbeats 4000000 in
set_option maxRecDepth 100000 in
theorem c_W_least (l : Launch) (hlt : l.stackTraces = false) (D : va_G) (cI cO cJ : ClassId) (ad : Nat → Nat) (ce : Nat → va_E) (sz : Nat) (os : Nat → Nat → Nat) (n : Nat) (hT : TR cI cO ad ce os n) (rl gc : Nat) (h0 : ce 0 = .inr (2, [.ref (ad 1), .ref (ad 2), .ref (ad 33), .int (nI rl), .int (nI gc)])) (f : Nat → Nat) (hW : WM f n os) (hf : ∀ i, i < n → f i < 512) (g : Nat → Int64) (ho : ce 40 = .inl (cJ, 1, .inr (.inl g))) (a b kx : Int32) : Met l yW_least (.codeWith yW_least bW_least 6 (some .int) [(0, 12, 15, 19), (0, 12, 19, 24)] :: WA) ({ frames := 8, cells := 2, slots := 12, locals := 135 }) (PX D (TY cI cO cJ) 41 ad ce sz [.ref (ad 0), .int (a), .int (b), .int (kx), .ref (ad 40)]) (va_Qi (fun (r : Int32) (ce1 : Nat → va_E) => (r = nI 0 ∧ ∃ (r1 : Int32) (ce2 : Nat → va_E) (g1 : Nat → Int64), (ce2 = ce ∧ ∃ u v k0 y, u ≤ v ∧ v ≤ n ∧ a = nI u ∧ b = nI v ∧ k0 < v - u ∧ kx = nI k0 ∧ KT f u v k0 y ∧ r1 = nI y) ∧ (∀ j, j ≠ 40 → ce1 j = ce2 j) ∧ ce1 40 = .inl (cJ, 1, .inr (.inl g1)) ∧ g1 0 = r1.toInt64) ∨ (r = nI 1 ∧ ce1 = ce ∧ (¬ PA a b n)) ∨ (r = nI 2 ∧ ce1 = ce ∧ (∃ u v, u ≤ v ∧ v ≤ n ∧ a = nI u ∧ b = nI v ∧ ¬ ∃ k0, k0 < v - u ∧ kx = nI k0))) (BW D (TY cI cO cJ) 41 ad (AW 41 ad sz)) (AW 41 ad sz)) 2 12 (AW 41 ad sz) := by
  refine metH (cc := bW_least) (maxL := 6) (ret := some .int) (hh := [(0, 12, 15, 19), (0, 12, 19, 24)]) (by decide) rfl ?_
  intro p e s m args below meth c s₁ B hml hv
  obtain ⟨rfl, hsz, hP, hK, hD0, hE⟩ := hv
  have hx := B.exec
  have hb := B.bytes
  have hr := B.returns
  have hA9 : ∀ w ∈ WA, w.before _ s = true := fun w h => atoms_spec (ws := .codeWith yW_least bW_least 6 (some .int) [(0, 12, 15, 19), (0, 12, 19, 24)] :: WA) B.pre w (List.mem_cons_of_mem _ h)
  have hown : s.vm.findClass RW = some m.cls := findClass_of_methodNamed B.named
  have htab : c.exceptionTable.toList = tableOf [(0, 12, 15, 19), (0, 12, 19, 24)] := vx_table (x := yW_least) B (hA9 _ mkW_least)
  subst hsz
  have hD := aw_D (sz := s.heap.size) hD0
  generalize hAe : AW 41 ad s.heap.size = A at hD hE ⊢
  have hA : ∀ q, s.heap.size ≤ q → A q := fun q h => by rw [← hAe]; exact Or.inr h
  clear hAe hD0
  obtain ⟨-, -, -, -, -, -, -, -, -, c1, c2, c3, -⟩ := id hE
  have hl := lv_entry ([.ref (ad 0), .int (a), .int (b), .int (kx), .ref (ad 40)]) (n := 6) (Nat.le_of_ble_eq_true rfl)
  rw [lg_entry_eq]
  generalize (lg_sl ([.ref (ad 0), .int (a), .int (b), .int (kx), .ref (ad 40)]) ++ List.replicate (6 - (lg_sl ([.ref (ad 0), .int (a), .int (b), .int (kx), .ref (ad 40)])).length) Slot.unset).toArray = ls at hl ⊢
  have hl : lv_has ls 6 [(0, .ref (ad 0)), (1, .int (a)), (2, .int (b)), (3, .int (kx)), (4, .ref (ad 40))] := hl
  refine st0 (A := A) (fun H locs hS hH => ?_)
  rw [← hH] at hP
  clear hH
  refine lv_aload hx hb dW_least_0 (lv_at hl 4 rfl) ?_
  refine lv_iconst (v := nI 0) hx hb dW_least_2 (by decide +kernel) ?_
  refine lv_aload_n hx hb dW_least_3 rfl (lv_at hl 0 rfl) ?_
  refine lv_iload_n hx hb dW_least_4 rfl (lv_at hl 1 rfl) ?_
  refine lv_iload_n hx hb dW_least_5 rfl (lv_at hl 2 rfl) ?_
  refine lv_iload_n hx hb dW_least_6 rfl (lv_at hl 3 rfl) ?_
  refine hcall (vx_runV (As := [.int (a), .int (b), .int (kx)]) (rest := [.int (nI 0), .ref (ad 40)]) ⟨hx, hb, hml, hown, hA9⟩ (c_L_least l hlt D cI cO cJ 41 ad ce _ (by omega) os n hT rl gc h0 f hW hf a b kx) (cwV 3 hA9 (gV mlW_33 miL_least msL_least mn_L mkL_least) rfl rfl rfl (by decide +kernel) ⟨Nat.le_of_ble_eq_true rfl, Nat.le_of_ble_eq_true rfl⟩) ⟨PX_bl, wx_recv hK hP (by omega) h0 rfl, PX_mk hK hP hD hE hS hA⟩ rfl rfl hl.1 rfl (lv_room (Nat.le_of_ble_eq_true rfl)) dW_least_7 ⟨Nat.le_of_ble_eq_true rfl, Nat.le_of_ble_eq_true rfl⟩) hS hP hD hA (fun E cell q H locs hpx hP hS k1 k2 k3 => ?_) (fun r1 ce2 H locs hpost hP hD hS => ?_)
  · skip
    rcases hpx with ⟨rfl, hno⟩ | ⟨rfl, hno⟩
    · skip
      refine cx_catch (own := RW) (name := eI) hown [] ⟨0, 12, 15, 19⟩ [⟨0, 12, 19, 24⟩] htab (fun y hy => nomatch hy) (by decide) (by decide) (hA9 _ mcW_19) (va_Nw.use rfl c1) k1 k2 k3 ?_
      refine lv_astore (lv' := [(5, .ref q), (0, .ref (ad 0)), (1, .int (a)), (2, .int (b)), (3, .int (kx)), (4, .ref (ad 40))]) hx hb dW_least_15 hl (by decide) rfl (fun ls hl => ?_)
      refine lv_iconst (v := nI 1) hx hb dW_least_17 (by decide +kernel) ?_
      exact W.iret (v := nI 1) hx hb hr (fun t ht hW => ⟨⟨nI 1, ce, rfl, Or.inr (Or.inl ⟨rfl, rfl, hno⟩), by rw [ht]; exact hP, va_K.moved hW.alike hK, hD⟩, hS.F ht⟩) hS.2.2 dW_least_18
    · skip
      refine cx_catch (own := RW) (name := eN) hown [⟨0, 12, 15, 19⟩] ⟨0, 12, 19, 24⟩ [] htab (fun y hy => by
          rw [List.mem_singleton.mp hy]; exact ⟨by decide, by decide, eI, hA9 _ mcW_19, c3⟩) (by decide) (by decide) (hA9 _ mcW_24) (va_Nw.use rfl c2) k1 k2 k3 ?_
      refine lv_astore (lv' := [(5, .ref q), (0, .ref (ad 0)), (1, .int (a)), (2, .int (b)), (3, .int (kx)), (4, .ref (ad 40))]) hx hb dW_least_19 hl (by decide) rfl (fun ls hl => ?_)
      refine lv_iconst (v := nI 2) hx hb dW_least_21 (by decide +kernel) ?_
      exact W.iret (v := nI 2) hx hb hr (fun t ht hW => ⟨⟨nI 2, ce, rfl, Or.inr (Or.inr ⟨rfl, rfl, hno⟩), by rw [ht]; exact hP, va_K.moved hW.alike hK, hD⟩, hS.F ht⟩) hS.2.2 dW_least_22
  · skip
    have e40 : ce2 40 = .inl (cJ, 1, .inr (.inl g)) := (congrFun hpost.1 40).trans ho
    refine lv_i2l (v := r1.toInt64) hx hb dW_least_10 rfl ?_
    refine va_last hx hb hK hP hD hS 40 2 (wx_at (by omega) e40) rfl (i := nI 0) (inN) dW_least_11 (fun H locs hP hD hS => ?_)
    rw [clN (a := 0)] at hP hD
    obtain ⟨ce3, h39⟩ : ∃ z9, z9 = va_up ce2 40 (.inl (cJ, 1, .inr (.inl (vp_updL g 0 r1.toInt64)))) := ⟨_, rfl⟩
    rw [wx_set (by omega), ← h39] at hP hD
    refine lv_goto (tgt := 23) hx hb dW_least_12 (by decide) ?_
    refine lv_iconst (v := nI 0) hx hb dW_least_23 (by decide +kernel) ?_
    exact W.iret (v := nI 0) hx hb hr (fun t ht hW => ⟨⟨nI 0, ce3, rfl, Or.inl ⟨rfl, r1, ce2, vp_updL g 0 r1.toInt64, hpost, fun j hj => by rw [h39, va_up_ne _ _ hj], by rw [h39, va_up_self], if_pos rfl⟩, by rw [ht]; exact hP, va_K.moved hW.alike hK, hD⟩, hS.F ht⟩) hS.2.2 dW_least_24

set_option maxHeartbeats 4000000 in
set_option maxRecDepth 100000 in
theorem c_W_different (l : Launch) (hlt : l.stackTraces = false) (D : va_G) (cI cO cJ : ClassId) (ad : Nat → Nat) (ce : Nat → va_E) (sz : Nat) (os : Nat → Nat → Nat) (n : Nat) (hT : TR cI cO ad ce os n) (rl gc : Nat) (h0 : ce 0 = .inr (2, [.ref (ad 1), .ref (ad 2), .ref (ad 33), .int (nI rl), .int (nI gc)])) (f : Nat → Nat) (hW : WM f n os) (hf : ∀ i, i < n → f i < 512) (gr : Nat → Int32) (h3 : ce 33 = .inl (cI, 512, .inl gr)) (g : Nat → Int64) (ho : ce 40 = .inl (cJ, 1, .inr (.inl g))) (a b : Int32) : Met l yW_different (.codeWith yW_different bW_different 5 (some .int) [(0, 10, 13, 19)] :: WA) ({ frames := 8, cells := 1, slots := 6, locals := 136 }) (PX D (TY cI cO cJ) 41 ad ce sz [.ref (ad 0), .int (a), .int (b), .ref (ad 40)]) (va_Qi (fun (r : Int32) (ce1 : Nat → va_E) => (r = nI 0 ∧ ∃ (r1 : Int32) (ce2 : Nat → va_E) (g1 : Nat → Int64), ((∀ j, j ≠ 0 → j ≠ 33 → ce2 j = ce j) ∧ ∃ u v, u ≤ v ∧ v ≤ n ∧ a = nI u ∧ b = nI v ∧ r1 = nI (nd f u v 512) ∧ ce2 0 = .inr (2, [.ref (ad 1), .ref (ad 2), .ref (ad 33), .int (nI rl), .int (nI (nd f u v 512))]) ∧ ∃ gr1 : Nat → Int32, ce2 33 = .inl (cI, 512, .inl gr1) ∧ DG f u v 512 gr1) ∧ (∀ j, j ≠ 40 → ce1 j = ce2 j) ∧ ce1 40 = .inl (cJ, 1, .inr (.inl g1)) ∧ g1 0 = r1.toInt64) ∨ (r = nI 1 ∧ ce1 = ce ∧ (¬ PA a b n))) (BW D (TY cI cO cJ) 41 ad (AW 41 ad sz)) (AW 41 ad sz)) 1 6 (AW 41 ad sz) := by
  refine metH (cc := bW_different) (maxL := 5) (ret := some .int) (hh := [(0, 10, 13, 19)]) (by decide) rfl ?_
  intro p e s m args below meth c s₁ B hml hv
  obtain ⟨rfl, hsz, hP, hK, hD0, hE⟩ := hv
  have hx := B.exec
  have hb := B.bytes
  have hr := B.returns
  have hA9 : ∀ w ∈ WA, w.before _ s = true := fun w h => atoms_spec (ws := .codeWith yW_different bW_different 5 (some .int) [(0, 10, 13, 19)] :: WA) B.pre w (List.mem_cons_of_mem _ h)
  have hown : s.vm.findClass RW = some m.cls := findClass_of_methodNamed B.named
  have htab : c.exceptionTable.toList = tableOf [(0, 10, 13, 19)] := vx_table (x := yW_different) B (hA9 _ mkW_different)
  subst hsz
  have hD := aw_D (sz := s.heap.size) hD0
  generalize hAe : AW 41 ad s.heap.size = A at hD hE ⊢
  have hA : ∀ q, s.heap.size ≤ q → A q := fun q h => by rw [← hAe]; exact Or.inr h
  clear hAe hD0
  obtain ⟨-, -, -, -, -, -, -, -, -, c1, c2, c3, -⟩ := id hE
  have hl := lv_entry ([.ref (ad 0), .int (a), .int (b), .ref (ad 40)]) (n := 5) (Nat.le_of_ble_eq_true rfl)
  rw [lg_entry_eq]
  generalize (lg_sl ([.ref (ad 0), .int (a), .int (b), .ref (ad 40)]) ++ List.replicate (5 - (lg_sl ([.ref (ad 0), .int (a), .int (b), .ref (ad 40)])).length) Slot.unset).toArray = ls at hl ⊢
  have hl : lv_has ls 5 [(0, .ref (ad 0)), (1, .int (a)), (2, .int (b)), (3, .ref (ad 40))] := hl
  refine st0 (A := A) (fun H locs hS hH => ?_)
  rw [← hH] at hP
  clear hH
  refine lv_aload_n hx hb dW_different_0 rfl (lv_at hl 3 rfl) ?_
  refine lv_iconst (v := nI 0) hx hb dW_different_1 (by decide +kernel) ?_
  refine lv_aload_n hx hb dW_different_2 rfl (lv_at hl 0 rfl) ?_
  refine lv_iload_n hx hb dW_different_3 rfl (lv_at hl 1 rfl) ?_
  refine lv_iload_n hx hb dW_different_4 rfl (lv_at hl 2 rfl) ?_
  refine hcall (vx_runV (As := [.int (a), .int (b)]) (rest := [.int (nI 0), .ref (ad 40)]) ⟨hx, hb, hml, hown, hA9⟩ (c_L_different l hlt D cI cO cJ 41 ad ce _ (by omega) os n hT rl gc h0 f hW hf gr h3 a b) (cwV 2 hA9 (gV mlW_39 miL_different msL_different mn_L mkL_different) rfl rfl rfl (by decide +kernel) ⟨Nat.le_of_ble_eq_true rfl, Nat.le_of_ble_eq_true rfl⟩) ⟨PX_bl, wx_recv hK hP (by omega) h0 rfl, PX_mk hK hP hD hE hS hA⟩ rfl rfl hl.1 rfl (lv_room (Nat.le_of_ble_eq_true rfl)) dW_different_5 ⟨Nat.le_of_ble_eq_true rfl, Nat.le_of_ble_eq_true rfl⟩) hS hP hD hA (fun E cell q H locs hpx hP hS k1 k2 k3 => ?_) (fun r1 ce2 H locs hpost hP hD hS => ?_)
  · skip
    obtain ⟨rfl, hno⟩ := hpx
    refine cx_catch (own := RW) (name := eI) hown [] ⟨0, 10, 13, 19⟩ [] htab (fun y hy => nomatch hy) (by decide) (by decide) (hA9 _ mcW_19) (va_Nw.use rfl c1) k1 k2 k3 ?_
    refine lv_astore (lv' := [(4, .ref q), (0, .ref (ad 0)), (1, .int (a)), (2, .int (b)), (3, .ref (ad 40))]) hx hb dW_different_13 hl (by decide) rfl (fun ls hl => ?_)
    refine lv_iconst (v := nI 1) hx hb dW_different_15 (by decide +kernel) ?_
    exact W.iret (v := nI 1) hx hb hr (fun t ht hW => ⟨⟨nI 1, ce, rfl, Or.inr (⟨rfl, rfl, hno⟩), by rw [ht]; exact hP, va_K.moved hW.alike hK, hD⟩, hS.F ht⟩) hS.2.2 dW_different_16
  · skip
    have e40 : ce2 40 = .inl (cJ, 1, .inr (.inl g)) := (hpost.1 40 (by omega) (by omega)).trans ho
    refine lv_i2l (v := r1.toInt64) hx hb dW_different_8 rfl ?_
    refine va_last hx hb hK hP hD hS 40 2 (wx_at (by omega) e40) rfl (i := nI 0) (inN) dW_different_9 (fun H locs hP hD hS => ?_)
    rw [clN (a := 0)] at hP hD
    obtain ⟨ce3, h39⟩ : ∃ z9, z9 = va_up ce2 40 (.inl (cJ, 1, .inr (.inl (vp_updL g 0 r1.toInt64)))) := ⟨_, rfl⟩
    rw [wx_set (by omega), ← h39] at hP hD
    refine lv_goto (tgt := 17) hx hb dW_different_10 (by decide) ?_
    refine lv_iconst (v := nI 0) hx hb dW_different_17 (by decide +kernel) ?_
    exact W.iret (v := nI 0) hx hb hr (fun t ht hW => ⟨⟨nI 0, ce3, rfl, Or.inl ⟨rfl, r1, ce2, vp_updL g 0 r1.toInt64, hpost, fun j hj => by rw [h39, va_up_ne _ _ hj], by rw [h39, va_up_self], if_pos rfl⟩, by rw [ht]; exact hP, va_K.moved hW.alike hK, hD⟩, hS.F ht⟩) hS.2.2 dW_different_18

set_option maxHeartbeats 4000000 in
set_option maxRecDepth 100000 in
theorem c_W_number (l : Launch) (hlt : l.stackTraces = false) (D : va_G) (cI cO cJ : ClassId) (ad : Nat → Nat) (ce : Nat → va_E) (sz : Nat) (rl gc : Nat) (h0 : ce 0 = .inr (2, [.ref (ad 1), .ref (ad 2), .ref (ad 33), .int (nI rl), .int (nI gc)])) (hgc : gc ≤ 512) (gr : Nat → Int32) (h3 : ce 33 = .inl (cI, 512, .inl gr)) (g : Nat → Int64) (ho : ce 40 = .inl (cJ, 1, .inr (.inl g))) (x : Int32) : Met l yW_number (.codeWith yW_number bW_number 4 (some .int) [(0, 9, 12, 24)] :: WA) ({ frames := 7, cells := 1, slots := 6, locals := 111 }) (PX D (TY cI cO cJ) 41 ad ce sz [.ref (ad 0), .int (x), .ref (ad 40)]) (va_Qi (fun (r : Int32) (ce1 : Nat → va_E) => (r = nI 0 ∧ ∃ (r1 : Int32) (ce2 : Nat → va_E) (g1 : Nat → Int64), (ce2 = ce ∧ ∃ k, k < gc ∧ x = nI k ∧ r1 = gr k) ∧ (∀ j, j ≠ 40 → ce1 j = ce2 j) ∧ ce1 40 = .inl (cJ, 1, .inr (.inl g1)) ∧ g1 0 = r1.toInt64) ∨ (r = nI 1 ∧ ce1 = ce ∧ (¬ (∃ k, k < gc ∧ x = nI k)))) (BW D (TY cI cO cJ) 41 ad (AW 41 ad sz)) (AW 41 ad sz)) 1 6 (AW 41 ad sz) := by
  refine metH (cc := bW_number) (maxL := 4) (ret := some .int) (hh := [(0, 9, 12, 24)]) (by decide) rfl ?_
  intro p e s m args below meth c s₁ B hml hv
  obtain ⟨rfl, hsz, hP, hK, hD0, hE⟩ := hv
  have hx := B.exec
  have hb := B.bytes
  have hr := B.returns
  have hA9 : ∀ w ∈ WA, w.before _ s = true := fun w h => atoms_spec (ws := .codeWith yW_number bW_number 4 (some .int) [(0, 9, 12, 24)] :: WA) B.pre w (List.mem_cons_of_mem _ h)
  have hown : s.vm.findClass RW = some m.cls := findClass_of_methodNamed B.named
  have htab : c.exceptionTable.toList = tableOf [(0, 9, 12, 24)] := vx_table (x := yW_number) B (hA9 _ mkW_number)
  subst hsz
  have hD := aw_D (sz := s.heap.size) hD0
  generalize hAe : AW 41 ad s.heap.size = A at hD hE ⊢
  have hA : ∀ q, s.heap.size ≤ q → A q := fun q h => by rw [← hAe]; exact Or.inr h
  clear hAe hD0
  obtain ⟨-, -, -, -, -, -, -, -, -, c1, c2, c3, -⟩ := id hE
  have hl := lv_entry ([.ref (ad 0), .int (x), .ref (ad 40)]) (n := 4) (Nat.le_of_ble_eq_true rfl)
  rw [lg_entry_eq]
  generalize (lg_sl ([.ref (ad 0), .int (x), .ref (ad 40)]) ++ List.replicate (4 - (lg_sl ([.ref (ad 0), .int (x), .ref (ad 40)])).length) Slot.unset).toArray = ls at hl ⊢
  have hl : lv_has ls 4 [(0, .ref (ad 0)), (1, .int (x)), (2, .ref (ad 40))] := hl
  refine st0 (A := A) (fun H locs hS hH => ?_)
  rw [← hH] at hP
  clear hH
  refine lv_aload_n hx hb dW_number_0 rfl (lv_at hl 2 rfl) ?_
  refine lv_iconst (v := nI 0) hx hb dW_number_1 (by decide +kernel) ?_
  refine lv_aload_n hx hb dW_number_2 rfl (lv_at hl 0 rfl) ?_
  refine lv_iload_n hx hb dW_number_3 rfl (lv_at hl 1 rfl) ?_
  refine hcall (vx_runV (As := [.int (x)]) (rest := [.int (nI 0), .ref (ad 40)]) ⟨hx, hb, hml, hown, hA9⟩ (c_L_number l hlt D cI cO cJ 41 ad ce _ (by omega) rl gc h0 hgc gr h3 x) (cwV 1 hA9 (gV mlW_42 miL_number msL_number mn_L mkL_number) rfl rfl rfl (by decide +kernel) ⟨Nat.le_of_ble_eq_true rfl, Nat.le_of_ble_eq_true rfl⟩) ⟨PX_bl, wx_recv hK hP (by omega) h0 rfl, PX_mk hK hP hD hE hS hA⟩ rfl rfl hl.1 rfl (lv_room (Nat.le_of_ble_eq_true rfl)) dW_number_4 ⟨Nat.le_of_ble_eq_true rfl, Nat.le_of_ble_eq_true rfl⟩) hS hP hD hA (fun E cell q H locs hpx hP hS k1 k2 k3 => ?_) (fun r1 ce2 H locs hpost hP hD hS => ?_)
  · skip
    obtain ⟨rfl, hno⟩ := hpx
    refine cx_catch (own := RW) (name := eN) hown [] ⟨0, 9, 12, 24⟩ [] htab (fun y hy => nomatch hy) (by decide) (by decide) (hA9 _ mcW_24) (va_Nw.use rfl c2) k1 k2 k3 ?_
    refine lv_astore_n (lv' := [(3, .ref q), (0, .ref (ad 0)), (1, .int (x)), (2, .ref (ad 40))]) hx hb dW_number_12 rfl hl (by decide) rfl (fun ls hl => ?_)
    refine lv_iconst (v := nI 1) hx hb dW_number_13 (by decide +kernel) ?_
    exact W.iret (v := nI 1) hx hb hr (fun t ht hW => ⟨⟨nI 1, ce, rfl, Or.inr (⟨rfl, rfl, hno⟩), by rw [ht]; exact hP, va_K.moved hW.alike hK, hD⟩, hS.F ht⟩) hS.2.2 dW_number_14
  · skip
    have e40 : ce2 40 = .inl (cJ, 1, .inr (.inl g)) := (congrFun hpost.1 40).trans ho
    refine lv_i2l (v := r1.toInt64) hx hb dW_number_7 rfl ?_
    refine va_last hx hb hK hP hD hS 40 2 (wx_at (by omega) e40) rfl (i := nI 0) (inN) dW_number_8 (fun H locs hP hD hS => ?_)
    rw [clN (a := 0)] at hP hD
    obtain ⟨ce3, h39⟩ : ∃ z9, z9 = va_up ce2 40 (.inl (cJ, 1, .inr (.inl (vp_updL g 0 r1.toInt64)))) := ⟨_, rfl⟩
    rw [wx_set (by omega), ← h39] at hP hD
    refine lv_goto (tgt := 15) hx hb dW_number_9 (by decide) ?_
    refine lv_iconst (v := nI 0) hx hb dW_number_15 (by decide +kernel) ?_
    exact W.iret (v := nI 0) hx hb hr (fun t ht hW => ⟨⟨nI 0, ce3, rfl, Or.inl ⟨rfl, r1, ce2, vp_updL g 0 r1.toInt64, hpost, fun j hj => by rw [h39, va_up_ne _ _ hj], by rw [h39, va_up_self], if_pos rfl⟩, by rw [ht]; exact hP, va_K.moved hW.alike hK, hD⟩, hS.F ht⟩) hS.2.2 dW_number_16

set_option maxHeartbeats 4000000 in
set_option maxRecDepth 100000 in
theorem c_W_most (l : Launch) (hlt : l.stackTraces = false) (D : va_G) (cI cO cJ : ClassId) (ad : Nat → Nat) (ce : Nat → va_E) (sz : Nat) (os : Nat → Nat → Nat) (n : Nat) (hT : TR cI cO ad ce os n) (rl gc : Nat) (h0 : ce 0 = .inr (2, [.ref (ad 1), .ref (ad 2), .ref (ad 33), .int (nI rl), .int (nI gc)])) (f : Nat → Nat) (hW : WM f n os) (hf : ∀ i, i < n → f i < 512) (g : Nat → Int64) (ho : ce 40 = .inl (cJ, 1, .inr (.inl g))) (a b : Int32) : Met l yW_most (.codeWith yW_most bW_most 5 (some .int) [(0, 10, 13, 19)] :: WA) ({ frames := 8, cells := 1, slots := 6, locals := 140 }) (PX D (TY cI cO cJ) 41 ad ce sz [.ref (ad 0), .int (a), .int (b), .ref (ad 40)]) (va_Qi (fun (r : Int32) (ce1 : Nat → va_E) => (r = nI 0 ∧ ∃ (r1 : Int32) (ce2 : Nat → va_E) (g1 : Nat → Int64), (ce2 = ce ∧ ∃ u v o, u ≤ v ∧ v ≤ n ∧ a = nI u ∧ b = nI v ∧ r1 = bI o ∧ MM f u v 512 o) ∧ (∀ j, j ≠ 40 → ce1 j = ce2 j) ∧ ce1 40 = .inl (cJ, 1, .inr (.inl g1)) ∧ g1 0 = r1.toInt64) ∨ (r = nI 1 ∧ ce1 = ce ∧ (¬ PA a b n))) (BW D (TY cI cO cJ) 41 ad (AW 41 ad sz)) (AW 41 ad sz)) 1 6 (AW 41 ad sz) := by
  refine metH (cc := bW_most) (maxL := 5) (ret := some .int) (hh := [(0, 10, 13, 19)]) (by decide) rfl ?_
  intro p e s m args below meth c s₁ B hml hv
  obtain ⟨rfl, hsz, hP, hK, hD0, hE⟩ := hv
  have hx := B.exec
  have hb := B.bytes
  have hr := B.returns
  have hA9 : ∀ w ∈ WA, w.before _ s = true := fun w h => atoms_spec (ws := .codeWith yW_most bW_most 5 (some .int) [(0, 10, 13, 19)] :: WA) B.pre w (List.mem_cons_of_mem _ h)
  have hown : s.vm.findClass RW = some m.cls := findClass_of_methodNamed B.named
  have htab : c.exceptionTable.toList = tableOf [(0, 10, 13, 19)] := vx_table (x := yW_most) B (hA9 _ mkW_most)
  subst hsz
  have hD := aw_D (sz := s.heap.size) hD0
  generalize hAe : AW 41 ad s.heap.size = A at hD hE ⊢
  have hA : ∀ q, s.heap.size ≤ q → A q := fun q h => by rw [← hAe]; exact Or.inr h
  clear hAe hD0
  obtain ⟨-, -, -, -, -, -, -, -, -, c1, c2, c3, -⟩ := id hE
  have hl := lv_entry ([.ref (ad 0), .int (a), .int (b), .ref (ad 40)]) (n := 5) (Nat.le_of_ble_eq_true rfl)
  rw [lg_entry_eq]
  generalize (lg_sl ([.ref (ad 0), .int (a), .int (b), .ref (ad 40)]) ++ List.replicate (5 - (lg_sl ([.ref (ad 0), .int (a), .int (b), .ref (ad 40)])).length) Slot.unset).toArray = ls at hl ⊢
  have hl : lv_has ls 5 [(0, .ref (ad 0)), (1, .int (a)), (2, .int (b)), (3, .ref (ad 40))] := hl
  refine st0 (A := A) (fun H locs hS hH => ?_)
  rw [← hH] at hP
  clear hH
  refine lv_aload_n hx hb dW_most_0 rfl (lv_at hl 3 rfl) ?_
  refine lv_iconst (v := nI 0) hx hb dW_most_1 (by decide +kernel) ?_
  refine lv_aload_n hx hb dW_most_2 rfl (lv_at hl 0 rfl) ?_
  refine lv_iload_n hx hb dW_most_3 rfl (lv_at hl 1 rfl) ?_
  refine lv_iload_n hx hb dW_most_4 rfl (lv_at hl 2 rfl) ?_
  refine hcall (vx_runV (As := [.int (a), .int (b)]) (rest := [.int (nI 0), .ref (ad 40)]) ⟨hx, hb, hml, hown, hA9⟩ (c_L_most l hlt D cI cO cJ 41 ad ce _ (by omega) os n hT rl gc h0 f hW hf a b) (cwV 2 hA9 (gV mlW_48 miL_most msL_most mn_L mkL_most) rfl rfl rfl (by decide +kernel) ⟨Nat.le_of_ble_eq_true rfl, Nat.le_of_ble_eq_true rfl⟩) ⟨PX_bl, wx_recv hK hP (by omega) h0 rfl, PX_mk hK hP hD hE hS hA⟩ rfl rfl hl.1 rfl (lv_room (Nat.le_of_ble_eq_true rfl)) dW_most_5 ⟨Nat.le_of_ble_eq_true rfl, Nat.le_of_ble_eq_true rfl⟩) hS hP hD hA (fun E cell q H locs hpx hP hS k1 k2 k3 => ?_) (fun r1 ce2 H locs hpost hP hD hS => ?_)
  · skip
    obtain ⟨rfl, hno⟩ := hpx
    refine cx_catch (own := RW) (name := eI) hown [] ⟨0, 10, 13, 19⟩ [] htab (fun y hy => nomatch hy) (by decide) (by decide) (hA9 _ mcW_19) (va_Nw.use rfl c1) k1 k2 k3 ?_
    refine lv_astore (lv' := [(4, .ref q), (0, .ref (ad 0)), (1, .int (a)), (2, .int (b)), (3, .ref (ad 40))]) hx hb dW_most_13 hl (by decide) rfl (fun ls hl => ?_)
    refine lv_iconst (v := nI 1) hx hb dW_most_15 (by decide +kernel) ?_
    exact W.iret (v := nI 1) hx hb hr (fun t ht hW => ⟨⟨nI 1, ce, rfl, Or.inr (⟨rfl, rfl, hno⟩), by rw [ht]; exact hP, va_K.moved hW.alike hK, hD⟩, hS.F ht⟩) hS.2.2 dW_most_16
  · skip
    have e40 : ce2 40 = .inl (cJ, 1, .inr (.inl g)) := (congrFun hpost.1 40).trans ho
    refine lv_i2l (v := r1.toInt64) hx hb dW_most_8 rfl ?_
    refine va_last hx hb hK hP hD hS 40 2 (wx_at (by omega) e40) rfl (i := nI 0) (inN) dW_most_9 (fun H locs hP hD hS => ?_)
    rw [clN (a := 0)] at hP hD
    obtain ⟨ce3, h39⟩ : ∃ z9, z9 = va_up ce2 40 (.inl (cJ, 1, .inr (.inl (vp_updL g 0 r1.toInt64)))) := ⟨_, rfl⟩
    rw [wx_set (by omega), ← h39] at hP hD
    refine lv_goto (tgt := 17) hx hb dW_most_10 (by decide) ?_
    refine lv_iconst (v := nI 0) hx hb dW_most_17 (by decide +kernel) ?_
    exact W.iret (v := nI 0) hx hb hr (fun t ht hW => ⟨⟨nI 0, ce3, rfl, Or.inl ⟨rfl, r1, ce2, vp_updL g 0 r1.toInt64, hpost, fun j hj => by rw [h39, va_up_ne _ _ hj], by rw [h39, va_up_self], if_pos rfl⟩, by rw [ht]; exact hP, va_K.moved hW.alike hK, hD⟩, hS.F ht⟩) hS.2.2 dW_most_18
