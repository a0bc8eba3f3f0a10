set_option maxHeartbeats 4000000 in
set_option maxRecDepth 100000 in
theorem c_L_often (l : Launch) (hlt : l.stackTraces = false) (D : va_G) (cI cO cJ : ClassId) (N : Nat) (ad : Nat → Nat) (ce : Nat → va_E) (sz : Nat) (hN : 34 ≤ N) (os : Nat → Nat → Nat) (n : Nat) (hT : TR cI cO ad ce os n) (rl gc : Nat) (h0 : ce 0 = .inr (2, [.ref (ad 1), .ref (ad 2), .ref (ad 33), .int (nI rl), .int (nI gc)])) (f : Nat → Nat) (hW : WM f n os) (hf : ∀ i, i < n → f i < 512) (x a b : Int32) : vx_Met l yL_often (.code yL_often bL_often 4 (some .int) :: WA) ({ frames := 7, cells := 2, slots := 12, locals := 112 }) (PX D (TY cI cO cJ) N ad ce sz [.ref (ad 0), .int (x), .int (a), .int (b)]) (va_Qi (fun (r : Int32) (ce1 : Nat → va_E) => ce1 = ce ∧ ∃ y u v, y < 512 ∧ u ≤ v ∧ v ≤ n ∧ x = nI y ∧ a = nI u ∧ b = nI v ∧ (r = nI (eq f y u v))) (BW D (TY cI cO cJ) N ad (AW N ad sz)) (AW N ad sz)) (XK (fun E => E = eI ∧ ¬ QA 512 x a b n)) 2 12 (AW N ad sz) := by
  refine vx_ofW (cc := bL_often) (maxL := 4) (ret := (some .int)) (by decide) rfl ?_
  intro p e s m args below meth c s₁ B hml htab hv
  obtain ⟨rfl, hsz, hP, hK, hD0, hE⟩ := hv
  have hx := B.exec
  have hb := B.bytes
  have hr := B.returns
  have hA9 : ∀ w ∈ WA, w.before _ s = true := fun w h => atoms_spec (ws := .code yL_often bL_often 4 (some .int) :: WA) B.pre w (List.mem_cons_of_mem _ h)
  have hown : s.vm.findClass RL = some m.cls := findClass_of_methodNamed B.named
  have hlocks := B.notSynchronized
  subst hsz
  have hD := aw_D (sz := s.heap.size) hD0
  generalize hAe : AW N ad s.heap.size = A at hD hE ⊢
  have hA : ∀ q, s.heap.size ≤ q → A q := fun q h => by rw [← hAe]; exact Or.inr h
  clear hAe hD0
  obtain ⟨-, -, ⟨g39, s39⟩, ⟨g52, s52⟩, ⟨g92, s92⟩, ⟨g94, s94⟩, ⟨g70, s70⟩, ⟨g76, s76⟩, ⟨g90, s90⟩, -⟩ := id hE
  have hl := lv_entry ([.ref (ad 0), .int (x), .int (a), .int (b)]) (n := 4) (Nat.le_of_ble_eq_true rfl)
  rw [lg_entry_eq]
  generalize (lg_sl ([.ref (ad 0), .int (x), .int (a), .int (b)]) ++ List.replicate (4 - (lg_sl ([.ref (ad 0), .int (x), .int (a), .int (b)])).length) Slot.unset).toArray = ls at hl ⊢
  have hl : lv_has ls 4 [(0, .ref (ad 0)), (1, .int (x)), (2, .int (a)), (3, .int (b))] := hl
  refine st0 (A := A) (fun H locs hS hH => ?_)
  have hU : ∀ q : Nat, q < s.heap.size → H[q]? = s.heap[q]? := fun q _ => by rw [hH]
  rw [← hH] at hP
  clear hH
  have hn := hT.2.2.2
  refine lv_iload_n hx hb dL_often_0 rfl (lv_at hl 1 rfl) ?_
  refine lv_sipush (v := nI 511) hx hb dL_often_1 (by decide +kernel) ?_
  refine chk (P0 := fun E => E = eI ∧ ¬ (∃ y, y ≤ 511 ∧ x = nI y)) hlocks htab (vx_runS (As := [.int (x), .int (nI 511)]) (rest := []) ⟨hx, hb, hml, hown, hA9⟩ (c_L_checkNumber l hlt D cI cO cJ N ad ce H.size x 511 (by omega)) (va_cwS 2 hA9 (gS mlL_59 mtL_checkNumber mn_L mkL_checkNumber) rfl rfl rfl (by decide +kernel) ⟨Nat.le_of_ble_eq_true rfl, Nat.le_of_ble_eq_true rfl⟩) ⟨PX_bl, PX_mk hK hP hD hE hS hA⟩ rfl rfl hl.1 rfl (lv_room (Nat.le_of_ble_eq_true rfl)) dL_often_4 ⟨Nat.le_of_ble_eq_true rfl, Nat.le_of_ble_eq_true rfl⟩) hS hP hD hA hU (fun E h => ⟨h.1, fun ⟨y, u, v, q1, q2, q3, e1, e2, e3⟩ => h.2 ⟨y, by omega, e1⟩⟩) (by decide) (by decide) (fun H locs hq hP hS hU => ?_)
  obtain ⟨y, hy, rfl⟩ := hq
  refine lv_aload_n hx hb dL_often_7 rfl (lv_at hl 0 rfl) ?_
  refine lv_iload_n hx hb dL_often_8 rfl (lv_at hl 2 rfl) ?_
  refine lv_iload_n hx hb dL_often_9 rfl (lv_at hl 3 rfl) ?_
  refine chk (P0 := fun E => E = eI ∧ ¬ PA (a) (b) n) hlocks htab (vx_runV (As := [.int (a), .int (b)]) (rest := []) ⟨hx, hb, hml, hown, hA9⟩ (c_L_checkPart l hlt D cI cO cJ N ad ce H.size hN os n hT rl gc h0 (a) (b)) (cwV 2 hA9 (gV mlL_63 miL_checkPart msL_checkPart mn_L mkL_checkPart) rfl rfl rfl (by decide +kernel) ⟨Nat.le_of_ble_eq_true rfl, Nat.le_of_ble_eq_true rfl⟩) ⟨PX_bl, wx_recv hK hP (by omega) h0 rfl, PX_mk hK hP hD hE hS hA⟩ rfl rfl hl.1 rfl (lv_room (Nat.le_of_ble_eq_true rfl)) dL_often_10 ⟨Nat.le_of_ble_eq_true rfl, Nat.le_of_ble_eq_true rfl⟩) hS hP hD hA hU (fun E h => ⟨h.1, fun q => h.2 (qa_p q)⟩) (by decide) (by decide) (fun H locs hq hP hS hU => ?_)
  obtain ⟨u, v, huv, hv, rfl, rfl⟩ := hq
  refine lv_aload_n hx hb dL_often_13 rfl (lv_at hl 0 rfl) ?_
  refine va_get (D := D) (ci := 2) (v := .ref (ad 2)) (C := RL) (T := TL) (N := 5) hx hb hA9 inL hown hK hP 0 (wx_at (by omega) h0) rfl 1 (by decide) (hA9 _ mfL_16) (fun _ h9 => h9) rfl dL_often_14 ?_
  refine lv_iload_n hx hb dL_often_17 rfl (lv_at hl 1 rfl) ?_
  refine lv_iload_n hx hb dL_often_18 rfl (lv_at hl 2 rfl) ?_
  refine lv_iload_n hx hb dL_often_19 rfl (lv_at hl 3 rfl) ?_
  refine vp_callSi (va_runV (As := [.int (nI y), .int (nI u), .int (nI v)]) (rest := []) ⟨hx, hb, hml, hown, hA9⟩ (c_T_timesOf l D cI cO cJ N ad ce (by omega) os n hT f hW hf y (by omega) u v huv hv) (cwV 3 hA9 (gV mlL_66 miT_timesOf msT_timesOf mn_T mkT_timesOf) rfl rfl rfl (by decide +kernel) ⟨Nat.le_of_ble_eq_true rfl, Nat.le_of_ble_eq_true rfl⟩) ⟨PR_bl, wx_recv hK hP (by omega) hT.1 rfl, PR_mk hK hP⟩ rfl rfl hl.1 rfl (lv_room (Nat.le_of_ble_eq_true rfl)) dL_often_20 ⟨Nat.le_of_ble_eq_true rfl, Nat.le_of_ble_eq_true rfl⟩).run (fun r1 hr1 => ?_)
  obtain rfl : r1 = nI (eq f y u v) := hr1
  refine W.widen (k := 2) (n := 12) (by decide) (by decide) ?_
  refine vx_ret ?_
  exact W.iret (v := (nI (eq f y u v))) hx hb hr (fun t ht hW => ⟨⟨(nI (eq f y u v)), ce, rfl, ⟨rfl, y, u, v, by omega, huv, hv, rfl, rfl, rfl, rfl⟩, by rw [ht]; exact hP, va_K.moved hW.alike hK, hD⟩, hS.F ht⟩) hS.2.2 dL_often_23

set_option maxHeartbeats 4000000 in
set_option maxRecDepth 100000 in
theorem c_L_below (l : Launch) (hlt : l.stackTraces = false) (D : va_G) (cI cO cJ : ClassId) (N : Nat) (ad : Nat → Nat) (ce : Nat → va_E) (sz : Nat) (hN : 34 ≤ N) (os : Nat → Nat → Nat) (n : Nat) (hT : TR cI cO ad ce os n) (rl gc : Nat) (h0 : ce 0 = .inr (2, [.ref (ad 1), .ref (ad 2), .ref (ad 33), .int (nI rl), .int (nI gc)])) (f : Nat → Nat) (hW : WM f n os) (hf : ∀ i, i < n → f i < 512) (x a b : Int32) : vx_Met l yL_below (.code yL_below bL_below 4 (some .int) :: WA) ({ frames := 7, cells := 2, slots := 12, locals := 112 }) (PX D (TY cI cO cJ) N ad ce sz [.ref (ad 0), .int (x), .int (a), .int (b)]) (va_Qi (fun (r : Int32) (ce1 : Nat → va_E) => ce1 = ce ∧ ∃ y u v, y < 513 ∧ u ≤ v ∧ v ≤ n ∧ x = nI y ∧ a = nI u ∧ b = nI v ∧ (r = nI (lq f y u v))) (BW D (TY cI cO cJ) N ad (AW N ad sz)) (AW N ad sz)) (XK (fun E => E = eI ∧ ¬ QA 513 x a b n)) 2 12 (AW N ad sz) := by
  refine vx_ofW (cc := bL_below) (maxL := 4) (ret := (some .int)) (by decide) rfl ?_
  intro p e s m args below meth c s₁ B hml htab hv
  obtain ⟨rfl, hsz, hP, hK, hD0, hE⟩ := hv
  have hx := B.exec
  have hb := B.bytes
  have hr := B.returns
  have hA9 : ∀ w ∈ WA, w.before _ s = true := fun w h => atoms_spec (ws := .code yL_below bL_below 4 (some .int) :: WA) B.pre w (List.mem_cons_of_mem _ h)
  have hown : s.vm.findClass RL = some m.cls := findClass_of_methodNamed B.named
  have hlocks := B.notSynchronized
  subst hsz
  have hD := aw_D (sz := s.heap.size) hD0
  generalize hAe : AW N ad s.heap.size = A at hD hE ⊢
  have hA : ∀ q, s.heap.size ≤ q → A q := fun q h => by rw [← hAe]; exact Or.inr h
  clear hAe hD0
  obtain ⟨-, -, ⟨g39, s39⟩, ⟨g52, s52⟩, ⟨g92, s92⟩, ⟨g94, s94⟩, ⟨g70, s70⟩, ⟨g76, s76⟩, ⟨g90, s90⟩, -⟩ := id hE
  have hl := lv_entry ([.ref (ad 0), .int (x), .int (a), .int (b)]) (n := 4) (Nat.le_of_ble_eq_true rfl)
  rw [lg_entry_eq]
  generalize (lg_sl ([.ref (ad 0), .int (x), .int (a), .int (b)]) ++ List.replicate (4 - (lg_sl ([.ref (ad 0), .int (x), .int (a), .int (b)])).length) Slot.unset).toArray = ls at hl ⊢
  have hl : lv_has ls 4 [(0, .ref (ad 0)), (1, .int (x)), (2, .int (a)), (3, .int (b))] := hl
  refine st0 (A := A) (fun H locs hS hH => ?_)
  have hU : ∀ q : Nat, q < s.heap.size → H[q]? = s.heap[q]? := fun q _ => by rw [hH]
  rw [← hH] at hP
  clear hH
  have hn := hT.2.2.2
  refine lv_iload_n hx hb dL_below_0 rfl (lv_at hl 1 rfl) ?_
  refine lv_sipush (v := nI 512) hx hb dL_below_1 (by decide +kernel) ?_
  refine chk (P0 := fun E => E = eI ∧ ¬ (∃ y, y ≤ 512 ∧ x = nI y)) hlocks htab (vx_runS (As := [.int (x), .int (nI 512)]) (rest := []) ⟨hx, hb, hml, hown, hA9⟩ (c_L_checkNumber l hlt D cI cO cJ N ad ce H.size x 512 (by omega)) (va_cwS 2 hA9 (gS mlL_59 mtL_checkNumber mn_L mkL_checkNumber) rfl rfl rfl (by decide +kernel) ⟨Nat.le_of_ble_eq_true rfl, Nat.le_of_ble_eq_true rfl⟩) ⟨PX_bl, PX_mk hK hP hD hE hS hA⟩ rfl rfl hl.1 rfl (lv_room (Nat.le_of_ble_eq_true rfl)) dL_below_4 ⟨Nat.le_of_ble_eq_true rfl, Nat.le_of_ble_eq_true rfl⟩) hS hP hD hA hU (fun E h => ⟨h.1, fun ⟨y, u, v, q1, q2, q3, e1, e2, e3⟩ => h.2 ⟨y, by omega, e1⟩⟩) (by decide) (by decide) (fun H locs hq hP hS hU => ?_)
  obtain ⟨y, hy, rfl⟩ := hq
  refine lv_aload_n hx hb dL_below_7 rfl (lv_at hl 0 rfl) ?_
  refine lv_iload_n hx hb dL_below_8 rfl (lv_at hl 2 rfl) ?_
  refine lv_iload_n hx hb dL_below_9 rfl (lv_at hl 3 rfl) ?_
  refine chk (P0 := fun E => E = eI ∧ ¬ PA (a) (b) n) hlocks htab (vx_runV (As := [.int (a), .int (b)]) (rest := []) ⟨hx, hb, hml, hown, hA9⟩ (c_L_checkPart l hlt D cI cO cJ N ad ce H.size hN os n hT rl gc h0 (a) (b)) (cwV 2 hA9 (gV mlL_63 miL_checkPart msL_checkPart mn_L mkL_checkPart) rfl rfl rfl (by decide +kernel) ⟨Nat.le_of_ble_eq_true rfl, Nat.le_of_ble_eq_true rfl⟩) ⟨PX_bl, wx_recv hK hP (by omega) h0 rfl, PX_mk hK hP hD hE hS hA⟩ rfl rfl hl.1 rfl (lv_room (Nat.le_of_ble_eq_true rfl)) dL_below_10 ⟨Nat.le_of_ble_eq_true rfl, Nat.le_of_ble_eq_true rfl⟩) hS hP hD hA hU (fun E h => ⟨h.1, fun q => h.2 (qa_p q)⟩) (by decide) (by decide) (fun H locs hq hP hS hU => ?_)
  obtain ⟨u, v, huv, hv, rfl, rfl⟩ := hq
  refine lv_aload_n hx hb dL_below_13 rfl (lv_at hl 0 rfl) ?_
  refine va_get (D := D) (ci := 2) (v := .ref (ad 2)) (C := RL) (T := TL) (N := 5) hx hb hA9 inL hown hK hP 0 (wx_at (by omega) h0) rfl 1 (by decide) (hA9 _ mfL_16) (fun _ h9 => h9) rfl dL_below_14 ?_
  refine lv_iload_n hx hb dL_below_17 rfl (lv_at hl 1 rfl) ?_
  refine lv_iload_n hx hb dL_below_18 rfl (lv_at hl 2 rfl) ?_
  refine lv_iload_n hx hb dL_below_19 rfl (lv_at hl 3 rfl) ?_
  refine vp_callSi (va_runV (As := [.int (nI y), .int (nI u), .int (nI v)]) (rest := []) ⟨hx, hb, hml, hown, hA9⟩ (c_T_countBelow l D cI cO cJ N ad ce (by omega) os n hT f hW hf y (by omega) u v huv hv) (cwV 3 hA9 (gV mlL_84 miT_countBelow msT_countBelow mn_T mkT_countBelow) rfl rfl rfl (by decide +kernel) ⟨Nat.le_of_ble_eq_true rfl, Nat.le_of_ble_eq_true rfl⟩) ⟨PR_bl, wx_recv hK hP (by omega) hT.1 rfl, PR_mk hK hP⟩ rfl rfl hl.1 rfl (lv_room (Nat.le_of_ble_eq_true rfl)) dL_below_20 ⟨Nat.le_of_ble_eq_true rfl, Nat.le_of_ble_eq_true rfl⟩).run (fun r1 hr1 => ?_)
  obtain rfl : r1 = nI (lq f y u v) := hr1
  refine W.widen (k := 2) (n := 12) (by decide) (by decide) ?_
  refine vx_ret ?_
  exact W.iret (v := (nI (lq f y u v))) hx hb hr (fun t ht hW => ⟨⟨(nI (lq f y u v)), ce, rfl, ⟨rfl, y, u, v, by omega, huv, hv, rfl, rfl, rfl, rfl⟩, by rw [ht]; exact hP, va_K.moved hW.alike hK, hD⟩, hS.F ht⟩) hS.2.2 dL_below_23

set_option maxHeartbeats 4000000 in
set_option maxRecDepth 100000 in
theorem c_L_before (l : Launch) (hlt : l.stackTraces = false) (D : va_G) (cI cO cJ : ClassId) (N : Nat) (ad : Nat → Nat) (ce : Nat → va_E) (sz : Nat) (hN : 34 ≤ N) (os : Nat → Nat → Nat) (n : Nat) (hT : TR cI cO ad ce os n) (rl gc : Nat) (h0 : ce 0 = .inr (2, [.ref (ad 1), .ref (ad 2), .ref (ad 33), .int (nI rl), .int (nI gc)])) (f : Nat → Nat) (hW : WM f n os) (hf : ∀ i, i < n → f i < 512) (x a b : Int32) : vx_Met l yL_before (.code yL_before bL_before 5 (some .int) :: WA) ({ frames := 7, cells := 2, slots := 12, locals := 112 }) (PX D (TY cI cO cJ) N ad ce sz [.ref (ad 0), .int (x), .int (a), .int (b)]) (va_Qi (fun (r : Int32) (ce1 : Nat → va_E) => ce1 = ce ∧ ∃ y u v, y < 512 ∧ u ≤ v ∧ v ≤ n ∧ x = nI y ∧ a = nI u ∧ b = nI v ∧ (∃ o, r = bI o ∧ BM f y u v o)) (BW D (TY cI cO cJ) N ad (AW N ad sz)) (AW N ad sz)) (XK (fun E => E = eI ∧ ¬ QA 512 x a b n)) 2 12 (AW N ad sz) := by
  refine vx_ofW (cc := bL_before) (maxL := 5) (ret := (some .int)) (by decide) rfl ?_
  intro p e s m args below meth c s₁ B hml htab hv
  obtain ⟨rfl, hsz, hP, hK, hD0, hE⟩ := hv
  have hx := B.exec
  have hb := B.bytes
  have hr := B.returns
  have hA9 : ∀ w ∈ WA, w.before _ s = true := fun w h => atoms_spec (ws := .code yL_before bL_before 5 (some .int) :: WA) B.pre w (List.mem_cons_of_mem _ h)
  have hown : s.vm.findClass RL = some m.cls := findClass_of_methodNamed B.named
  have hlocks := B.notSynchronized
  subst hsz
  have hD := aw_D (sz := s.heap.size) hD0
  generalize hAe : AW N ad s.heap.size = A at hD hE ⊢
  have hA : ∀ q, s.heap.size ≤ q → A q := fun q h => by rw [← hAe]; exact Or.inr h
  clear hAe hD0
  obtain ⟨-, -, ⟨g39, s39⟩, ⟨g52, s52⟩, ⟨g92, s92⟩, ⟨g94, s94⟩, ⟨g70, s70⟩, ⟨g76, s76⟩, ⟨g90, s90⟩, -⟩ := id hE
  have hl := lv_entry ([.ref (ad 0), .int (x), .int (a), .int (b)]) (n := 5) (Nat.le_of_ble_eq_true rfl)
  rw [lg_entry_eq]
  generalize (lg_sl ([.ref (ad 0), .int (x), .int (a), .int (b)]) ++ List.replicate (5 - (lg_sl ([.ref (ad 0), .int (x), .int (a), .int (b)])).length) Slot.unset).toArray = ls at hl ⊢
  have hl : lv_has ls 5 [(0, .ref (ad 0)), (1, .int (x)), (2, .int (a)), (3, .int (b))] := hl
  refine st0 (A := A) (fun H locs hS hH => ?_)
  have hU : ∀ q : Nat, q < s.heap.size → H[q]? = s.heap[q]? := fun q _ => by rw [hH]
  rw [← hH] at hP
  clear hH
  have hn := hT.2.2.2
  refine lv_iload_n hx hb dL_before_0 rfl (lv_at hl 1 rfl) ?_
  refine lv_sipush (v := nI 511) hx hb dL_before_1 (by decide +kernel) ?_
  refine chk (P0 := fun E => E = eI ∧ ¬ (∃ y, y ≤ 511 ∧ x = nI y)) hlocks htab (vx_runS (As := [.int (x), .int (nI 511)]) (rest := []) ⟨hx, hb, hml, hown, hA9⟩ (c_L_checkNumber l hlt D cI cO cJ N ad ce H.size x 511 (by omega)) (va_cwS 2 hA9 (gS mlL_59 mtL_checkNumber mn_L mkL_checkNumber) rfl rfl rfl (by decide +kernel) ⟨Nat.le_of_ble_eq_true rfl, Nat.le_of_ble_eq_true rfl⟩) ⟨PX_bl, PX_mk hK hP hD hE hS hA⟩ rfl rfl hl.1 rfl (lv_room (Nat.le_of_ble_eq_true rfl)) dL_before_4 ⟨Nat.le_of_ble_eq_true rfl, Nat.le_of_ble_eq_true rfl⟩) hS hP hD hA hU (fun E h => ⟨h.1, fun ⟨y, u, v, q1, q2, q3, e1, e2, e3⟩ => h.2 ⟨y, by omega, e1⟩⟩) (by decide) (by decide) (fun H locs hq hP hS hU => ?_)
  obtain ⟨y, hy, rfl⟩ := hq
  refine lv_aload_n hx hb dL_before_7 rfl (lv_at hl 0 rfl) ?_
  refine lv_iload_n hx hb dL_before_8 rfl (lv_at hl 2 rfl) ?_
  refine lv_iload_n hx hb dL_before_9 rfl (lv_at hl 3 rfl) ?_
  refine chk (P0 := fun E => E = eI ∧ ¬ PA (a) (b) n) hlocks htab (vx_runV (As := [.int (a), .int (b)]) (rest := []) ⟨hx, hb, hml, hown, hA9⟩ (c_L_checkPart l hlt D cI cO cJ N ad ce H.size hN os n hT rl gc h0 (a) (b)) (cwV 2 hA9 (gV mlL_63 miL_checkPart msL_checkPart mn_L mkL_checkPart) rfl rfl rfl (by decide +kernel) ⟨Nat.le_of_ble_eq_true rfl, Nat.le_of_ble_eq_true rfl⟩) ⟨PX_bl, wx_recv hK hP (by omega) h0 rfl, PX_mk hK hP hD hE hS hA⟩ rfl rfl hl.1 rfl (lv_room (Nat.le_of_ble_eq_true rfl)) dL_before_10 ⟨Nat.le_of_ble_eq_true rfl, Nat.le_of_ble_eq_true rfl⟩) hS hP hD hA hU (fun E h => ⟨h.1, fun q => h.2 (qa_p q)⟩) (by decide) (by decide) (fun H locs hq hP hS hU => ?_)
  obtain ⟨u, v, huv, hv, rfl, rfl⟩ := hq
  refine lv_aload_n hx hb dL_before_13 rfl (lv_at hl 0 rfl) ?_
  refine va_get (D := D) (ci := 2) (v := .ref (ad 2)) (C := RL) (T := TL) (N := 5) hx hb hA9 inL hown hK hP 0 (wx_at (by omega) h0) rfl 1 (by decide) (hA9 _ mfL_16) (fun _ h9 => h9) rfl dL_before_14 ?_
  refine lv_iload_n hx hb dL_before_17 rfl (lv_at hl 1 rfl) ?_
  refine lv_iconst (v := nI 1) hx hb dL_before_18 (by decide +kernel) ?_
  refine lv_iadd hx hb dL_before_19 ?_
  refine lv_topi (fun z1 ez1 => ?_)
  obtain rfl : z1 = nI (y + 1) := by rw [ez1]; exact nI_add _ _
  refine lv_iload_n hx hb dL_before_20 rfl (lv_at hl 2 rfl) ?_
  refine lv_iload_n hx hb dL_before_21 rfl (lv_at hl 3 rfl) ?_
  refine vp_callSi (va_runV (As := [.int (nI (y + 1)), .int (nI u), .int (nI v)]) (rest := []) ⟨hx, hb, hml, hown, hA9⟩ (c_T_countBelow l D cI cO cJ N ad ce (by omega) os n hT f hW hf (y + 1) (by omega) u v huv hv) (cwV 3 hA9 (gV mlL_84 miT_countBelow msT_countBelow mn_T mkT_countBelow) rfl rfl rfl (by decide +kernel) ⟨Nat.le_of_ble_eq_true rfl, Nat.le_of_ble_eq_true rfl⟩) ⟨PR_bl, wx_recv hK hP (by omega) hT.1 rfl, PR_mk hK hP⟩ rfl rfl hl.1 rfl (lv_room (Nat.le_of_ble_eq_true rfl)) dL_before_22 ⟨Nat.le_of_ble_eq_true rfl, Nat.le_of_ble_eq_true rfl⟩).run (fun r2 hr2 => ?_)
  obtain rfl : r2 = nI (lq f (y + 1) u v) := hr2
  refine lv_istore (lv' := [(4, .int (nI (lq f (y + 1) u v))), (0, .ref (ad 0)), (1, .int (nI y)), (2, .int (nI u)), (3, .int (nI v))]) hx hb dL_before_25 hl (by decide) rfl (fun ls hl => ?_)
  refine lv_iload hx hb dL_before_27 (lv_at hl 0 rfl) ?_
  refine lv_if_ne (tgt := 36) hx hb dL_before_29 (by decide) (fun c29 => ?_) (fun c29 => ?_)
  · skip
    have ll := lq_le f (y + 1) huv
    have hp : 0 < lq f (y + 1) u v := Nat.pos_of_ne_zero (neN (b := 0) (fun q => c29 (q.trans nI_0)))
    refine lv_aload_n hx hb dL_before_36 rfl (lv_at hl 1 rfl) ?_
    refine va_get (D := D) (ci := 2) (v := .ref (ad 2)) (C := RL) (T := TL) (N := 5) hx hb hA9 inL hown hK hP 0 (wx_at (by omega) h0) rfl 1 (by decide) (hA9 _ mfL_16) (fun _ h9 => h9) rfl dL_before_37 ?_
    refine lv_iload_n hx hb dL_before_40 rfl (lv_at hl 3 rfl) ?_
    refine lv_iload_n hx hb dL_before_41 rfl (lv_at hl 4 rfl) ?_
    refine lv_iload hx hb dL_before_42 (lv_at hl 0 rfl) ?_
    refine lv_iconst (v := nI 1) hx hb dL_before_44 (by decide +kernel) ?_
    refine lv_isub hx hb dL_before_45 ?_
    refine lv_topi (fun z3 ez3 => ?_)
    obtain rfl : z3 = nI (lq f (y + 1) u v - 1) := by rw [ez3]; exact pk_sub hp
    refine vp_callSi (va_runV (As := [.int (nI u), .int (nI v), .int (nI (lq f (y + 1) u v - 1))]) (rest := []) ⟨hx, hb, hml, hown, hA9⟩ (c_T_groupOf l D cI cO cJ N ad ce (by omega) os n hT f hW hf u v huv hv (lq f (y + 1) u v - 1) (by omega)) (cwV 3 hA9 (gV mlL_78 miT_groupOf msT_groupOf mn_T mkT_groupOf) rfl rfl rfl (by decide +kernel) ⟨Nat.le_of_ble_eq_true rfl, Nat.le_of_ble_eq_true rfl⟩) ⟨PR_bl, wx_recv hK hP (by omega) hT.1 rfl, PR_mk hK hP⟩ rfl rfl hl.1 rfl (lv_room (Nat.le_of_ble_eq_true rfl)) dL_before_46 ⟨Nat.le_of_ble_eq_true rfl, Nat.le_of_ble_eq_true rfl⟩).run (fun r4 hr4 => ?_)
    obtain ⟨w5, rfl, hkt, hw5⟩ := hr4
    have el := eq_le f w5 huv
    refine vp_callSi (va_runS (As := [.int (nI (w5 * 4096 + eq f w5 u v))]) (rest := []) ⟨hx, hb, hml, hown, hA9⟩ (c_L_numberOf l (w5 * 4096 + eq f w5 u v) (by omega)) (va_cwS 1 hA9 (gS mlL_81 mtL_numberOf mn_L mkL_numberOf) rfl rfl rfl (by decide +kernel) ⟨Nat.le_of_ble_eq_true rfl, Nat.le_of_ble_eq_true rfl⟩) ⟨P0_bl, P0_mk⟩ rfl rfl hl.1 rfl (lv_room (Nat.le_of_ble_eq_true rfl)) dL_before_49 ⟨Nat.le_of_ble_eq_true rfl, Nat.le_of_ble_eq_true rfl⟩).run (fun r5 hr5 => ?_)
    obtain rfl : r5 = nI w5 := hr5.trans (congrArg nI (by omega))
    refine W.widen (k := 2) (n := 12) (by decide) (by decide) ?_
    refine vx_ret ?_
    exact W.iret (v := (nI w5)) hx hb hr (fun t ht hW => ⟨⟨(nI w5), ce, rfl, ⟨rfl, y, u, v, by omega, huv, hv, rfl, rfl, rfl, ⟨some w5, rfl, bm_some huv hp hkt⟩⟩, by rw [ht]; exact hP, va_K.moved hW.alike hK, hD⟩, hS.F ht⟩) hS.2.2 dL_before_52
  · skip
    have ll := lq_le f (y + 1) huv
    have hp : lq f (y + 1) u v = 0 := eqN (b := 0) (c29.trans nI_0.symm)
    refine lv_iconst (v := bI none) hx hb dL_before_32 (by decide +kernel) ?_
    refine lv_goto (tgt := 52) hx hb dL_before_33 (by decide) ?_
    refine W.widen (k := 2) (n := 12) (by decide) (by decide) ?_
    refine vx_ret ?_
    exact W.iret (v := (bI none)) hx hb hr (fun t ht hW => ⟨⟨(bI none), ce, rfl, ⟨rfl, y, u, v, by omega, huv, hv, rfl, rfl, rfl, ⟨none, rfl, bm_none hp⟩⟩, by rw [ht]; exact hP, va_K.moved hW.alike hK, hD⟩, hS.F ht⟩) hS.2.2 dL_before_52

set_option maxHeartbeats 4000000 in
set_option maxRecDepth 100000 in
theorem c_L_place (l : Launch) (hlt : l.stackTraces = false) (D : va_G) (cI cO cJ : ClassId) (N : Nat) (ad : Nat → Nat) (ce : Nat → va_E) (sz : Nat) (hN : 34 ≤ N) (os : Nat → Nat → Nat) (n : Nat) (hT : TR cI cO ad ce os n) (rl gc : Nat) (h0 : ce 0 = .inr (2, [.ref (ad 1), .ref (ad 2), .ref (ad 33), .int (nI rl), .int (nI gc)])) (f : Nat → Nat) (hW : WM f n os) (hf : ∀ i, i < n → f i < 512) (x kx : Int32) : vx_Met l yL_place (.code yL_place bL_place 3 (some .int) :: WA) ({ frames := 7, cells := 2, slots := 12, locals := 113 }) (PX D (TY cI cO cJ) N ad ce sz [.ref (ad 0), .int (x), .int (kx)]) (va_Qi (fun (r : Int32) (ce1 : Nat → va_E) => ce1 = ce ∧ ∃ y i, y < 512 ∧ x = nI y ∧ i < n ∧ f i = y ∧ kx = nI (cn (fun j => decide (f j = y)) i) ∧ r = nI i) (BW D (TY cI cO cJ) N ad (AW N ad sz)) (AW N ad sz)) (XK (fun E => (E = eI ∧ (¬ ∃ y, y < 512 ∧ x = nI y)) ∨ (E = eN ∧ ∃ y, y < 512 ∧ x = nI y ∧ ¬ ∃ i, i < n ∧ f i = y ∧ kx = nI (cn (fun j => decide (f j = y)) i)))) 2 12 (AW N ad sz) := by
  refine vx_ofW (cc := bL_place) (maxL := 3) (ret := (some .int)) (by decide) rfl ?_
  intro p e s m args below meth c s₁ B hml htab hv
  obtain ⟨rfl, hsz, hP, hK, hD0, hE⟩ := hv
  have hx := B.exec
  have hb := B.bytes
  have hr := B.returns
  have hA9 : ∀ w ∈ WA, w.before _ s = true := fun w h => atoms_spec (ws := .code yL_place bL_place 3 (some .int) :: WA) B.pre w (List.mem_cons_of_mem _ h)
  have hown : s.vm.findClass RL = some m.cls := findClass_of_methodNamed B.named
  have hlocks := B.notSynchronized
  subst hsz
  have hD := aw_D (sz := s.heap.size) hD0
  generalize hAe : AW N ad s.heap.size = A at hD hE ⊢
  have hA : ∀ q, s.heap.size ≤ q → A q := fun q h => by rw [← hAe]; exact Or.inr h
  clear hAe hD0
  obtain ⟨-, -, ⟨g39, s39⟩, ⟨g52, s52⟩, ⟨g92, s92⟩, ⟨g94, s94⟩, ⟨g70, s70⟩, ⟨g76, s76⟩, ⟨g90, s90⟩, -⟩ := id hE
  have hl := lv_entry ([.ref (ad 0), .int (x), .int (kx)]) (n := 3) (Nat.le_of_ble_eq_true rfl)
  rw [lg_entry_eq]
  generalize (lg_sl ([.ref (ad 0), .int (x), .int (kx)]) ++ List.replicate (3 - (lg_sl ([.ref (ad 0), .int (x), .int (kx)])).length) Slot.unset).toArray = ls at hl ⊢
  have hl : lv_has ls 3 [(0, .ref (ad 0)), (1, .int (x)), (2, .int (kx))] := hl
  refine st0 (A := A) (fun H locs hS hH => ?_)
  have hU : ∀ q : Nat, q < s.heap.size → H[q]? = s.heap[q]? := fun q _ => by rw [hH]
  rw [← hH] at hP
  clear hH
  have hn := hT.2.2.2
  refine lv_iload_n hx hb dL_place_0 rfl (lv_at hl 1 rfl) ?_
  refine lv_sipush (v := nI 511) hx hb dL_place_1 (by decide +kernel) ?_
  refine chk (P0 := fun E => E = eI ∧ ¬ (∃ y, y ≤ 511 ∧ x = nI y)) hlocks htab (vx_runS (As := [.int (x), .int (nI 511)]) (rest := []) ⟨hx, hb, hml, hown, hA9⟩ (c_L_checkNumber l hlt D cI cO cJ N ad ce H.size x 511 (by omega)) (va_cwS 2 hA9 (gS mlL_59 mtL_checkNumber mn_L mkL_checkNumber) rfl rfl rfl (by decide +kernel) ⟨Nat.le_of_ble_eq_true rfl, Nat.le_of_ble_eq_true rfl⟩) ⟨PX_bl, PX_mk hK hP hD hE hS hA⟩ rfl rfl hl.1 rfl (lv_room (Nat.le_of_ble_eq_true rfl)) dL_place_4 ⟨Nat.le_of_ble_eq_true rfl, Nat.le_of_ble_eq_true rfl⟩) hS hP hD hA hU (fun E h => Or.inl ⟨h.1, fun ⟨y, q1, q2⟩ => h.2 ⟨y, by omega, q2⟩⟩) (by decide) (by decide) (fun H locs hq hP hS hU => ?_)
  obtain ⟨y, hy, rfl⟩ := hq
  refine lv_iload_n hx hb dL_place_7 rfl (lv_at hl 2 rfl) ?_
  refine lv_if_lt (tgt := 31) hx hb dL_place_8 (by decide) (fun c8 => ?_) (fun c8 => ?_)
  · skip
    have no : ¬ ∃ i, i < n ∧ f i = y ∧ kx = nI (cn (fun j => decide (f j = y)) i) := fun ⟨i, q1, q2, q3⟩ => neg_n c8 q3 (by have := cn_le (fun j => decide (f j = y)) i; omega)
    exact thrN hx hb hlt hown hA9 s70 hE hS hU (hl.1.trans hml.symm) dL_place_31 dL_place_34 dL_place_35 dL_place_37 dL_place_40 htab (Nat.le_of_ble_eq_true rfl) (Nat.le_of_ble_eq_true rfl) (Nat.le_of_ble_eq_true rfl) (Nat.le_of_ble_eq_true rfl) hlocks (Or.inr ⟨rfl, y, by omega, rfl, no⟩) (by decide) (by decide)
  · skip
    refine lv_iload_n hx hb dL_place_11 rfl (lv_at hl 2 rfl) ?_
    refine lv_aload_n hx hb dL_place_12 rfl (lv_at hl 0 rfl) ?_
    refine va_get (D := D) (ci := 2) (v := .ref (ad 2)) (C := RL) (T := TL) (N := 5) hx hb hA9 inL hown hK hP 0 (wx_at (by omega) h0) rfl 1 (by decide) (hA9 _ mfL_16) (fun _ h9 => h9) rfl dL_place_13 ?_
    refine lv_iload_n hx hb dL_place_16 rfl (lv_at hl 1 rfl) ?_
    refine lv_iconst (v := nI 0) hx hb dL_place_17 (by decide +kernel) ?_
    refine lv_aload_n hx hb dL_place_18 rfl (lv_at hl 0 rfl) ?_
    refine va_get (D := D) (ci := 2) (v := .ref (ad 2)) (C := RL) (T := TL) (N := 5) hx hb hA9 inL hown hK hP 0 (wx_at (by omega) h0) rfl 1 (by decide) (hA9 _ mfL_16) (fun _ h9 => h9) rfl dL_place_19 ?_
    refine vp_callSi (va_runV (As := []) (rest := [.int (nI 0), .int (nI y), .ref (ad 2), .int (kx)]) ⟨hx, hb, hml, hown, hA9⟩ (c_T_size l D cI cO cJ N ad ce (by omega) os n hT) (cwV 0 hA9 (gV mlL_46 miT_size msT_size mn_T mkT_size) rfl rfl rfl (by decide +kernel) ⟨Nat.le_of_ble_eq_true rfl, Nat.le_of_ble_eq_true rfl⟩) ⟨PR_bl, wx_recv hK hP (by omega) hT.1 rfl, PR_mk hK hP⟩ rfl rfl hl.1 rfl (lv_room (Nat.le_of_ble_eq_true rfl)) dL_place_22 ⟨Nat.le_of_ble_eq_true rfl, Nat.le_of_ble_eq_true rfl⟩).run (fun r1 hr1 => ?_)
    obtain rfl : r1 = nI n := hr1
    refine vp_callSi (va_runV (As := [.int (nI y), .int (nI 0), .int (nI n)]) (rest := [.int (kx)]) ⟨hx, hb, hml, hown, hA9⟩ (c_T_timesOf l D cI cO cJ N ad ce (by omega) os n hT f hW hf y (by omega) 0 n (Nat.zero_le n) (Nat.le_refl n)) (cwV 3 hA9 (gV mlL_66 miT_timesOf msT_timesOf mn_T mkT_timesOf) rfl rfl rfl (by decide +kernel) ⟨Nat.le_of_ble_eq_true rfl, Nat.le_of_ble_eq_true rfl⟩) ⟨PR_bl, wx_recv hK hP (by omega) hT.1 rfl, PR_mk hK hP⟩ rfl rfl hl.1 rfl (lv_room (Nat.le_of_ble_eq_true rfl)) dL_place_25 ⟨Nat.le_of_ble_eq_true rfl, Nat.le_of_ble_eq_true rfl⟩).run (fun r2 hr2 => ?_)
    obtain rfl : r2 = nI (eq f y 0 n) := hr2
    have el := eq_le f y (Nat.zero_le n)
    refine lv_icmp_lt (tgt := 41) hx hb dL_place_28 (by decide) (fun c28 => ?_) (fun c28 => ?_)
    · skip
      obtain ⟨k0, hk0, rfl⟩ := rl_mk c8 c28
      obtain ⟨i0, p1, p2, p3⟩ := cn_kth (p := fun j => decide (f j = y)) (n := n) (k := k0) (by have : eq f y 0 n = cn (fun j => decide (f j = y)) n := rfl; omega)
      have p4 : f i0 = y := of_decide_eq_true p2
      refine lv_aload_n hx hb dL_place_41 rfl (lv_at hl 0 rfl) ?_
      refine va_get (D := D) (ci := 2) (v := .ref (ad 2)) (C := RL) (T := TL) (N := 5) hx hb hA9 inL hown hK hP 0 (wx_at (by omega) h0) rfl 1 (by decide) (hA9 _ mfL_16) (fun _ h9 => h9) rfl dL_place_42 ?_
      refine lv_iload_n hx hb dL_place_45 rfl (lv_at hl 1 rfl) ?_
      refine lv_iload_n hx hb dL_place_46 rfl (lv_at hl 2 rfl) ?_
      refine vp_callSi (va_runV (As := [.int (nI y), .int (nI k0)]) (rest := []) ⟨hx, hb, hml, hown, hA9⟩ (c_T_placeOf l D cI cO cJ N ad ce (by omega) os n hT f hW hf y (by omega) k0 i0 p1 p4 p3) (cwV 2 hA9 (gV mlL_72 miT_placeOf msT_placeOf mn_T mkT_placeOf) rfl rfl rfl (by decide +kernel) ⟨Nat.le_of_ble_eq_true rfl, Nat.le_of_ble_eq_true rfl⟩) ⟨PR_bl, wx_recv hK hP (by omega) hT.1 rfl, PR_mk hK hP⟩ rfl rfl hl.1 rfl (lv_room (Nat.le_of_ble_eq_true rfl)) dL_place_47 ⟨Nat.le_of_ble_eq_true rfl, Nat.le_of_ble_eq_true rfl⟩).run (fun r3 hr3 => ?_)
      obtain rfl : r3 = nI i0 := hr3
      refine W.widen (k := 2) (n := 12) (by decide) (by decide) ?_
      refine vx_ret ?_
      exact W.iret (v := (nI i0)) hx hb hr (fun t ht hW => ⟨⟨(nI i0), ce, rfl, ⟨rfl, y, i0, by omega, rfl, p1, p4, by rw [p3], rfl⟩, by rw [ht]; exact hP, va_K.moved hW.alike hK, hD⟩, hS.F ht⟩) hS.2.2 dL_place_50
    · skip
      have no : ¬ ∃ i, i < n ∧ f i = y ∧ kx = nI (cn (fun j => decide (f j = y)) i) := fun ⟨i, q1, q2, q3⟩ => c28 (by
        rw [q3]
        have b1 := cn_mono (fun j => decide (f j = y)) (show i + 1 ≤ n by omega)
        rw [cn_t (by simp [q2])] at b1
        have b2 : eq f y 0 n = cn (fun j => decide (f j = y)) n := rfl
        exact nI_lt (by omega) (by omega))
      exact thrN hx hb hlt hown hA9 s70 hE hS hU (hl.1.trans hml.symm) dL_place_31 dL_place_34 dL_place_35 dL_place_37 dL_place_40 htab (Nat.le_of_ble_eq_true rfl) (Nat.le_of_ble_eq_true rfl) (Nat.le_of_ble_eq_true rfl) (Nat.le_of_ble_eq_true rfl) hlocks (Or.inr ⟨rfl, y, by omega, rfl, no⟩) (by decide) (by decide)

set_option maxHeartbeats 4000000 in
set_option maxRecDepth 100000 in
theorem c_L_least (l : Launch) (hlt : l.stackTraces = false) (D : va_G) (cI cO cJ : ClassId) (N : Nat) (ad : Nat → Nat) (ce : Nat → va_E) (sz : Nat) (hN : 34 ≤ N) (os : Nat → Nat → Nat) (n : Nat) (hT : TR cI cO ad ce os n) (rl gc : Nat) (h0 : ce 0 = .inr (2, [.ref (ad 1), .ref (ad 2), .ref (ad 33), .int (nI rl), .int (nI gc)])) (f : Nat → Nat) (hW : WM f n os) (hf : ∀ i, i < n → f i < 512) (a b kx : Int32) : vx_Met l yL_least (.code yL_least bL_least 4 (some .int) :: WA) ({ frames := 7, cells := 2, slots := 12, locals := 112 }) (PX D (TY cI cO cJ) N ad ce sz [.ref (ad 0), .int (a), .int (b), .int (kx)]) (va_Qi (fun (r : Int32) (ce1 : Nat → va_E) => ce1 = ce ∧ ∃ u v k0 y, u ≤ v ∧ v ≤ n ∧ a = nI u ∧ b = nI v ∧ k0 < v - u ∧ kx = nI k0 ∧ KT f u v k0 y ∧ r = nI y) (BW D (TY cI cO cJ) N ad (AW N ad sz)) (AW N ad sz)) (XK (fun E => (E = eI ∧ ¬ PA a b n) ∨ (E = eN ∧ ∃ u v, u ≤ v ∧ v ≤ n ∧ a = nI u ∧ b = nI v ∧ ¬ ∃ k0, k0 < v - u ∧ kx = nI k0))) 2 12 (AW N ad sz) := by
  refine vx_ofW (cc := bL_least) (maxL := 4) (ret := (some .int)) (by decide) rfl ?_
  intro p e s m args below meth c s₁ B hml htab hv
  obtain ⟨rfl, hsz, hP, hK, hD0, hE⟩ := hv
  have hx := B.exec
  have hb := B.bytes
  have hr := B.returns
  have hA9 : ∀ w ∈ WA, w.before _ s = true := fun w h => atoms_spec (ws := .code yL_least bL_least 4 (some .int) :: WA) B.pre w (List.mem_cons_of_mem _ h)
  have hown : s.vm.findClass RL = some m.cls := findClass_of_methodNamed B.named
  have hlocks := B.notSynchronized
  subst hsz
  have hD := aw_D (sz := s.heap.size) hD0
  generalize hAe : AW N ad s.heap.size = A at hD hE ⊢
  have hA : ∀ q, s.heap.size ≤ q → A q := fun q h => by rw [← hAe]; exact Or.inr h
  clear hAe hD0
  obtain ⟨-, -, ⟨g39, s39⟩, ⟨g52, s52⟩, ⟨g92, s92⟩, ⟨g94, s94⟩, ⟨g70, s70⟩, ⟨g76, s76⟩, ⟨g90, s90⟩, -⟩ := id hE
  have hl := lv_entry ([.ref (ad 0), .int (a), .int (b), .int (kx)]) (n := 4) (Nat.le_of_ble_eq_true rfl)
  rw [lg_entry_eq]
  generalize (lg_sl ([.ref (ad 0), .int (a), .int (b), .int (kx)]) ++ List.replicate (4 - (lg_sl ([.ref (ad 0), .int (a), .int (b), .int (kx)])).length) Slot.unset).toArray = ls at hl ⊢
  have hl : lv_has ls 4 [(0, .ref (ad 0)), (1, .int (a)), (2, .int (b)), (3, .int (kx))] := hl
  refine st0 (A := A) (fun H locs hS hH => ?_)
  have hU : ∀ q : Nat, q < s.heap.size → H[q]? = s.heap[q]? := fun q _ => by rw [hH]
  rw [← hH] at hP
  clear hH
  have hn := hT.2.2.2
  refine lv_aload_n hx hb dL_least_0 rfl (lv_at hl 0 rfl) ?_
  refine lv_iload_n hx hb dL_least_1 rfl (lv_at hl 1 rfl) ?_
  refine lv_iload_n hx hb dL_least_2 rfl (lv_at hl 2 rfl) ?_
  refine chk (P0 := fun E => E = eI ∧ ¬ PA (a) (b) n) hlocks htab (vx_runV (As := [.int (a), .int (b)]) (rest := []) ⟨hx, hb, hml, hown, hA9⟩ (c_L_checkPart l hlt D cI cO cJ N ad ce H.size hN os n hT rl gc h0 (a) (b)) (cwV 2 hA9 (gV mlL_63 miL_checkPart msL_checkPart mn_L mkL_checkPart) rfl rfl rfl (by decide +kernel) ⟨Nat.le_of_ble_eq_true rfl, Nat.le_of_ble_eq_true rfl⟩) ⟨PX_bl, wx_recv hK hP (by omega) h0 rfl, PX_mk hK hP hD hE hS hA⟩ rfl rfl hl.1 rfl (lv_room (Nat.le_of_ble_eq_true rfl)) dL_least_3 ⟨Nat.le_of_ble_eq_true rfl, Nat.le_of_ble_eq_true rfl⟩) hS hP hD hA hU (fun E h => Or.inl h) (by decide) (by decide) (fun H locs hq hP hS hU => ?_)
  obtain ⟨u, v, huv, hv, rfl, rfl⟩ := hq
  refine lv_iload_n hx hb dL_least_6 rfl (lv_at hl 3 rfl) ?_
  refine lv_if_lt (tgt := 17) hx hb dL_least_7 (by decide) (fun c7 => ?_) (fun c7 => ?_)
  · skip
    have no : ¬ ∃ k0, k0 < v - u ∧ kx = nI k0 := fun ⟨k0, q1, q2⟩ => neg_n c7 q2
    exact thrN hx hb hlt hown hA9 s76 hE hS hU (hl.1.trans hml.symm) dL_least_17 dL_least_20 dL_least_21 dL_least_23 dL_least_26 htab (Nat.le_of_ble_eq_true rfl) (Nat.le_of_ble_eq_true rfl) (Nat.le_of_ble_eq_true rfl) (Nat.le_of_ble_eq_true rfl) hlocks (Or.inr ⟨rfl, u, v, huv, hv, rfl, rfl, no⟩) (by decide) (by decide)
  · skip
    refine lv_iload_n hx hb dL_least_10 rfl (lv_at hl 3 rfl) ?_
    refine lv_iload_n hx hb dL_least_11 rfl (lv_at hl 2 rfl) ?_
    refine lv_iload_n hx hb dL_least_12 rfl (lv_at hl 1 rfl) ?_
    refine lv_isub hx hb dL_least_13 ?_
    refine lv_topi (fun z1 ez1 => ?_)
    obtain rfl : z1 = nI (v - u) := by rw [ez1]; exact pk_sub huv
    refine lv_icmp_lt (tgt := 27) hx hb dL_least_14 (by decide) (fun c14 => ?_) (fun c14 => ?_)
    · skip
      obtain ⟨k0, hk0, rfl⟩ := rl_mk c7 c14
      refine lv_aload_n hx hb dL_least_27 rfl (lv_at hl 0 rfl) ?_
      refine va_get (D := D) (ci := 2) (v := .ref (ad 2)) (C := RL) (T := TL) (N := 5) hx hb hA9 inL hown hK hP 0 (wx_at (by omega) h0) rfl 1 (by decide) (hA9 _ mfL_16) (fun _ h9 => h9) rfl dL_least_28 ?_
      refine lv_iload_n hx hb dL_least_31 rfl (lv_at hl 1 rfl) ?_
      refine lv_iload_n hx hb dL_least_32 rfl (lv_at hl 2 rfl) ?_
      refine lv_iload_n hx hb dL_least_33 rfl (lv_at hl 3 rfl) ?_
      refine vp_callSi (va_runV (As := [.int (nI u), .int (nI v), .int (nI k0)]) (rest := []) ⟨hx, hb, hml, hown, hA9⟩ (c_T_groupOf l D cI cO cJ N ad ce (by omega) os n hT f hW hf u v huv hv (k0) (hk0)) (cwV 3 hA9 (gV mlL_78 miT_groupOf msT_groupOf mn_T mkT_groupOf) rfl rfl rfl (by decide +kernel) ⟨Nat.le_of_ble_eq_true rfl, Nat.le_of_ble_eq_true rfl⟩) ⟨PR_bl, wx_recv hK hP (by omega) hT.1 rfl, PR_mk hK hP⟩ rfl rfl hl.1 rfl (lv_room (Nat.le_of_ble_eq_true rfl)) dL_least_34 ⟨Nat.le_of_ble_eq_true rfl, Nat.le_of_ble_eq_true rfl⟩).run (fun r2 hr2 => ?_)
      obtain ⟨w5, rfl, hkt, hw5⟩ := hr2
      have el := eq_le f w5 huv
      refine vp_callSi (va_runS (As := [.int (nI (w5 * 4096 + eq f w5 u v))]) (rest := []) ⟨hx, hb, hml, hown, hA9⟩ (c_L_numberOf l (w5 * 4096 + eq f w5 u v) (by omega)) (va_cwS 1 hA9 (gS mlL_81 mtL_numberOf mn_L mkL_numberOf) rfl rfl rfl (by decide +kernel) ⟨Nat.le_of_ble_eq_true rfl, Nat.le_of_ble_eq_true rfl⟩) ⟨P0_bl, P0_mk⟩ rfl rfl hl.1 rfl (lv_room (Nat.le_of_ble_eq_true rfl)) dL_least_37 ⟨Nat.le_of_ble_eq_true rfl, Nat.le_of_ble_eq_true rfl⟩).run (fun r3 hr3 => ?_)
      obtain rfl : r3 = nI w5 := hr3.trans (congrArg nI (by omega))
      refine W.widen (k := 2) (n := 12) (by decide) (by decide) ?_
      refine vx_ret ?_
      exact W.iret (v := (nI w5)) hx hb hr (fun t ht hW => ⟨⟨(nI w5), ce, rfl, ⟨rfl, u, v, k0, w5, huv, hv, rfl, rfl, hk0, rfl, hkt, rfl⟩, by rw [ht]; exact hP, va_K.moved hW.alike hK, hD⟩, hS.F ht⟩) hS.2.2 dL_least_40
    · skip
      have no : ¬ ∃ k0, k0 < v - u ∧ kx = nI k0 := fun ⟨k0, q1, q2⟩ => c14 (by rw [q2]; exact nI_lt q1 (by omega))
      exact thrN hx hb hlt hown hA9 s76 hE hS hU (hl.1.trans hml.symm) dL_least_17 dL_least_20 dL_least_21 dL_least_23 dL_least_26 htab (Nat.le_of_ble_eq_true rfl) (Nat.le_of_ble_eq_true rfl) (Nat.le_of_ble_eq_true rfl) (Nat.le_of_ble_eq_true rfl) hlocks (Or.inr ⟨rfl, u, v, huv, hv, rfl, rfl, no⟩) (by decide) (by decide)
