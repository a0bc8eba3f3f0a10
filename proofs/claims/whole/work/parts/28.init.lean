/-! constructors -/
def PN (D : va_G) (ty : List (ClassId × FieldType)) (N : Nat) (ad : Nat → Nat) (ce : Nat → va_E) (sz : Nat) (av : List Value) : Array Value → State → Prop := va_Pc av (fun U => U.heap.size = sz ∧ va_P D CLS (wx N ad ce) U.heap ∧ va_K D CLS ty U ∧ va_D (fun _ => True) (wx N ad ce) ∧ va_AO RV U)
theorem PN_bl {D : va_G} {ty : List (ClassId × FieldType)} {N : Nat} {ad : Nat → Nat} {ce : Nat → va_E} {sz : Nat} {av : List Value} : FrameBlind (PN D ty N ad ce sz av) := fun a U g mk q => ⟨q.1, q.2.1, q.2.2.1, va_K.moved (u := U) (U := U.calling g mk a) (Vm.Alike.refl U.vm) q.2.2.2.1, q.2.2.2.2.1, va_AO.moved (u := U) (U := U.calling g mk a) (Vm.Alike.refl U.vm) q.2.2.2.2.2⟩
theorem PN_mk {D : va_G} {ty : List (ClassId × FieldType)} {N : Nat} {ad : Nat → Nat} {ce : Nat → va_E} {av : List Value} {s : State} {H : Heap} {A : Nat → Prop} (hK : va_K D CLS ty s) (hP : va_P D CLS (wx N ad ce) H) (hD : va_D A (wx N ad ce)) (hO : va_AO RV s) : ∀ U : State, U.heap = H → s.WarmedH U.vm → PN D ty N ad ce H.size av av.toArray U := fun U hU hW => ⟨rfl, by rw [hU], by rw [hU]; exact hP, va_K.moved hW.alike hK, hD.weaken (fun _ _ _ _ => trivial), va_AO.moved hW.alike hO⟩
/-- a level that was made at cell k -/
def LZ (cI : ClassId) (ad : Nat → Nat) (ce : Nat → va_E) (k : Nat) : Prop := ce k = .inr (0, [.ref (ad (k + 1)), .ref (ad (k + 2)), .int (nI 0), .int (nI 0)]) ∧ ce (k + 1) = .inl (cI, 126, .inl (fun _ => 0)) ∧ ce (k + 2) = .inl (cI, 126, .inl (fun _ => 0))
theorem LZ.cg {cI : ClassId} {ad ad1 : Nat → Nat} {ce ce1 : Nat → va_E} {k : Nat} (h : LZ cI ad ce k) (ha : ∀ j, k ≤ j → j < k + 3 → ad1 j = ad j) (hc : ∀ j, k ≤ j → j < k + 3 → ce1 j = ce j) : LZ cI ad1 ce1 k := ⟨by rw [hc k (by omega) (by omega), ha (k + 1) (by omega) (by omega), ha (k + 2) (by omega) (by omega)]; exact h.1, (hc _ (by omega) (by omega)).trans h.2.1, (hc _ (by omega) (by omega)).trans h.2.2⟩
/-- the tree that was made at cell 2 -/
def TZ (cI cO : ClassId) (ad : Nat → Nat) (ce : Nat → va_E) : Prop := ce 2 = .inr (1, [.ref (ad 3), .ref (ad 4), .ref (ad 5), .int (nI 0)]) ∧ (∃ lv : Nat → Option Nat, ce 3 = .inl (cO, 9, .inr (.inr (.inr (.inr lv)))) ∧ ∀ d, d < 9 → lv d = some (ad (6 + 3 * d))) ∧ (∀ d, d < 9 → LZ cI ad ce (6 + 3 * d)) ∧ ce 4 = .inl (cI, 4000, .inl (fun _ => 0)) ∧ ce 5 = .inl (cI, 4000, .inl (fun _ => 0))
theorem TZ.cg {cI cO : ClassId} {ad ad1 : Nat → Nat} {ce ce1 : Nat → va_E} (h : TZ cI cO ad ce) (ha : ∀ j, 2 ≤ j → j < 33 → ad1 j = ad j) (hc : ∀ j, 2 ≤ j → j < 33 → ce1 j = ce j) : TZ cI cO ad1 ce1 := by
  obtain ⟨h1, ⟨lv, h2, h3⟩, h4, h5, h6⟩ := h
  refine ⟨by rw [hc 2 (by omega) (by omega), ha 3 (by omega) (by omega), ha 4 (by omega) (by omega), ha 5 (by omega) (by omega)]; exact h1, ⟨lv, (hc 3 (by omega) (by omega)).trans h2, fun d hd => by rw [ha _ (by omega) (by omega)]; exact h3 d hd⟩, fun d hd => (h4 d hd).cg (fun j _ _ => ha j (by omega) (by omega)) (fun j _ _ => hc j (by omega) (by omega)), (hc 4 (by omega) (by omega)).trans h5, (hc 5 (by omega) (by omega)).trans h6⟩

set_option maxHeartbeats 4000000 in
set_option maxRecDepth 100000 in
theorem c_V_init (l : Launch) (D : va_G) (cI cO cJ : ClassId) (k : Nat) (ad : Nat → Nat) (ce : Nat → va_E) (sz : Nat) (h0 : ce k = .inr (0, [.null, .null, .int 0, .int 0])) : Met l yV_init (.code yV_init bV_init 1 none :: WA) ({ frames := 1, cells := 2, slots := 252, locals := 40 }) (PM D (TY cI cO cJ) (k + 1) ad ce sz [.ref (ad k)]) (va_Qv (fun u : (Nat → Nat) × (Nat → va_E) => (∀ j, j < k + 1 → u.1 j = ad j) ∧ (∀ j, j < k → u.2 j = ce j) ∧ LZ cI u.1 u.2 k) (BG D (TY cI cO cJ) (k + 3) (AW (k + 1) ad sz)) (AW (k + 1) ad sz)) 2 252 (AW (k + 1) ad sz) := by
  refine Met.ofW (cc := bV_init) (maxL := 1) (ret := none) (by decide) rfl ?_
  intro p e s m args below meth c s₁ B hml hv
  obtain ⟨rfl, hsz, hP, hK, hD0⟩ := hv
  have hx := B.exec
  have hb := B.bytes
  have hr := B.returns
  have hA9 : ∀ w ∈ WA, w.before _ s = true := fun w h => atoms_spec (ws := .code yV_init bV_init 1 none :: WA) B.pre w (List.mem_cons_of_mem _ h)
  have hown : s.vm.findClass RV = some m.cls := findClass_of_methodNamed B.named
  have hlocks := B.notSynchronized
  have hin : meth.name = "<init>" := (name_of_methodNamed B.named B.method).1
  subst hsz
  have hD := aw_D (sz := s.heap.size) hD0
  generalize hAe : AW (k + 1) ad s.heap.size = A at hD ⊢
  have hA : ∀ q, s.heap.size ≤ q → A q := fun q h => by rw [← hAe]; exact Or.inr h
  clear hAe hD0
  have hl := lv_entry ([.ref (ad k)]) (n := 1) (Nat.le_of_ble_eq_true rfl)
  rw [lg_entry_eq]
  generalize (lg_sl ([.ref (ad k)]) ++ List.replicate (1 - (lg_sl ([.ref (ad k)])).length) Slot.unset).toArray = ls at hl ⊢
  have hl : lv_has ls 1 [(0, .ref (ad k))] := hl
  refine st0 (A := A) (fun H locs hS hH => ?_)
  rw [← hH] at hP
  clear hH
  refine lv_aload_n hx hb dV_init_0 rfl (lv_at hl 0 rfl) ?_
  refine W.objInit hx hb hown (hA9 _ mlV_3) (hA9 _ miobjectInit) (hA9 _ mkobj) rfl (by rw [hml]; exact hl.1) rfl dV_init_1 (Nat.le_of_ble_eq_true rfl) (Nat.le_of_ble_eq_true rfl) ?_
  refine W.eq (g2 := F0 m 4 ls []) rfl ?_
  refine lv_aload_n hx hb dV_init_4 rfl (lv_at hl 0 rfl) ?_
  refine lv_bipush (v := nI 126) hx hb dV_init_5 (by decide +kernel) ?_
  refine ix_newI (n := 126) hx hb (hA9 _ ma_int) hK hP hD hS hA (by omega) (Nat.le_of_ble_eq_true rfl) (Nat.le_of_ble_eq_true rfl) dV_init_7 (fun q H hP hD hS => ?_)
  obtain ⟨ad1, hd1⟩ : ∃ z9, z9 = va_up ad (k + 1) q := ⟨_, rfl⟩
  obtain ⟨ce1, hc1⟩ : ∃ z9, z9 = va_up ce (k + 1) (.inl (cI, 126, .inl (fun _ => 0))) := ⟨_, rfl⟩
  rw [← hd1, ← hc1] at hP hD
  have eq1 : q = ad1 (k + 1) := by rw [hd1, va_up_self]
  have ed1 : ∀ j, j < k + 1 → ad j = ad1 j := fun j h => by rw [hd1, va_up_ne _ _ (by omega)]
  have ec1 : ∀ j, j < k + 1 → ce1 j = ce j := fun j h => by rw [hc1, va_up_ne _ _ (by omega)]
  have fa1 : ∀ j, j < k + 1 → ad1 j = ad j := fun j h => (ed1 j (by omega)).symm.trans ((fun _ _ => rfl) j h)
  have fc1 : ∀ j, j < k → ce1 j = ce j := fun j h => (ec1 j (by omega)).trans ((fun _ _ => rfl) j h)
  have q1_k : ce1 k = .inr (0, [.null, .null, .int 0, .int 0]) := by rw [ec1 k (by omega), h0]
  have qn1 : ce1 (k + 1) = .inl (cI, 126, .inl (fun _ => 0)) := by rw [hc1, va_up_self]
  replace hl : lv_has ls 1 [(0, .ref (ad1 k))] := by rw [← ed1 k (by omega)]; exact hl
  refine W.eq (g2 := F0 m 9 ls [.ref (ad1 (k + 1)), .ref (ad1 k)]) (by rw [eq1, ed1 k (by omega)]) ?_
  clear hd1 hc1
  refine va_putF (D := D) (ci := 0) (v := .ref (ad1 (k + 1))) (ty := .array .int) (C := RV) (T := TV) (N := 4) hx hb hA9 inV tyV tyV_ok nmV hown hK hP hD hS k (wx_at (by omega) q1_k) rfl 0 (by decide) (hA9 _ mfV_9) (fun _ h9 => h9) rfl hin rfl (by decide +kernel) rfl rfl (Nat.le_of_ble_eq_true rfl) dV_init_9 (fun H locs hP hD hS => ?_)
  replace hP : va_P D CLS ((wx (k + 2) ad1 ce1).set k (ad1 k, .inr (0, [.ref (ad1 (k + 1)), .null, .int 0, .int 0]))) H := hP
  replace hD : va_D A ((wx (k + 2) ad1 ce1).set k (ad1 k, .inr (0, [.ref (ad1 (k + 1)), .null, .int 0, .int 0]))) := hD
  obtain ⟨ce2, hc2⟩ : ∃ z9, z9 = va_up ce1 k (.inr (0, [.ref (ad1 (k + 1)), .null, .int 0, .int 0])) := ⟨_, rfl⟩
  rw [wx_set (by omega), ← hc2] at hP hD
  have fc2 : ∀ j, j < k → ce2 j = ce j := fun j h => (by rw [hc2, va_up_ne _ _ (by omega)] : ce2 j = ce1 j).trans (fc1 j h)
  have q2_k___1 : ce2 (k + 1) = .inl (cI, 126, .inl (fun _ => 0)) := by rw [hc2, va_up_ne _ _ (by omega), qn1]
  have qw2 : ce2 k = .inr (0, [.ref (ad1 (k + 1)), .null, .int 0, .int 0]) := by rw [hc2, va_up_self]
  have ec2 : ∀ j, j ≠ k → ce2 j = ce1 j := fun j h => by rw [hc2, va_up_ne _ _ h]
  clear hc2
  refine lv_aload_n hx hb dV_init_12 rfl (lv_at hl 0 rfl) ?_
  refine lv_bipush (v := nI 126) hx hb dV_init_13 (by decide +kernel) ?_
  refine ix_newI (n := 126) hx hb (hA9 _ ma_int) hK hP hD hS hA (by omega) (Nat.le_of_ble_eq_true rfl) (Nat.le_of_ble_eq_true rfl) dV_init_15 (fun q H hP hD hS => ?_)
  obtain ⟨ad3, hd3⟩ : ∃ z9, z9 = va_up ad1 (k + 2) q := ⟨_, rfl⟩
  obtain ⟨ce3, hc3⟩ : ∃ z9, z9 = va_up ce2 (k + 2) (.inl (cI, 126, .inl (fun _ => 0))) := ⟨_, rfl⟩
  rw [← hd3, ← hc3] at hP hD
  have eq3 : q = ad3 (k + 2) := by rw [hd3, va_up_self]
  have ed3 : ∀ j, j < k + 2 → ad1 j = ad3 j := fun j h => by rw [hd3, va_up_ne _ _ (by omega)]
  have ec3 : ∀ j, j < k + 2 → ce3 j = ce2 j := fun j h => by rw [hc3, va_up_ne _ _ (by omega)]
  have fa3 : ∀ j, j < k + 1 → ad3 j = ad j := fun j h => (ed3 j (by omega)).symm.trans (fa1 j h)
  have fc3 : ∀ j, j < k → ce3 j = ce j := fun j h => (ec3 j (by omega)).trans (fc2 j h)
  have q3_k : ce3 k = .inr (0, [.ref (ad3 (k + 1)), .null, .int 0, .int 0]) := by rw [ec3 k (by omega), qw2, ed3 (k + 1) (by omega)]
  have q3_k___1 : ce3 (k + 1) = .inl (cI, 126, .inl (fun _ => 0)) := by rw [ec3 (k + 1) (by omega), q2_k___1]
  have qn3 : ce3 (k + 2) = .inl (cI, 126, .inl (fun _ => 0)) := by rw [hc3, va_up_self]
  replace hl : lv_has ls 1 [(0, .ref (ad3 k))] := by rw [← ed3 k (by omega)]; exact hl
  refine W.eq (g2 := F0 m 17 ls [.ref (ad3 (k + 2)), .ref (ad3 k)]) (by rw [eq3, ed3 k (by omega)]) ?_
  clear hd3 hc3
  refine va_putF (D := D) (ci := 0) (v := .ref (ad3 (k + 2))) (ty := .array .int) (C := RV) (T := TV) (N := 4) hx hb hA9 inV tyV tyV_ok nmV hown hK hP hD hS k (wx_at (by omega) q3_k) rfl 1 (by decide) (hA9 _ mfV_15) (fun _ h9 => h9) rfl hin rfl (by decide +kernel) rfl rfl (Nat.le_of_ble_eq_true rfl) dV_init_17 (fun H locs hP hD hS => ?_)
  replace hP : va_P D CLS ((wx (k + 3) ad3 ce3).set k (ad3 k, .inr (0, [.ref (ad3 (k + 1)), .ref (ad3 (k + 2)), .int 0, .int 0]))) H := hP
  replace hD : va_D A ((wx (k + 3) ad3 ce3).set k (ad3 k, .inr (0, [.ref (ad3 (k + 1)), .ref (ad3 (k + 2)), .int 0, .int 0]))) := hD
  obtain ⟨ce4, hc4⟩ : ∃ z9, z9 = va_up ce3 k (.inr (0, [.ref (ad3 (k + 1)), .ref (ad3 (k + 2)), .int 0, .int 0])) := ⟨_, rfl⟩
  rw [wx_set (by omega), ← hc4] at hP hD
  have fc4 : ∀ j, j < k → ce4 j = ce j := fun j h => (by rw [hc4, va_up_ne _ _ (by omega)] : ce4 j = ce3 j).trans (fc3 j h)
  have q4_k___1 : ce4 (k + 1) = .inl (cI, 126, .inl (fun _ => 0)) := by rw [hc4, va_up_ne _ _ (by omega), q3_k___1]
  have q4_k___2 : ce4 (k + 2) = .inl (cI, 126, .inl (fun _ => 0)) := by rw [hc4, va_up_ne _ _ (by omega), qn3]
  have qw4 : ce4 k = .inr (0, [.ref (ad3 (k + 1)), .ref (ad3 (k + 2)), .int 0, .int 0]) := by rw [hc4, va_up_self]
  have ec4 : ∀ j, j ≠ k → ce4 j = ce3 j := fun j h => by rw [hc4, va_up_ne _ _ h]
  clear hc4
  refine lv_aload_n hx hb dV_init_20 rfl (lv_at hl 0 rfl) ?_
  refine lv_iconst (v := nI 0) hx hb dV_init_21 (by decide +kernel) ?_
  refine va_put (D := D) (ci := 0) (v := .int (nI 0)) (ty := .int) (C := RV) (T := TV) (N := 4) hx hb hA9 inV tyV tyV_ok nmV hown hK hP hD hS k (wx_at (by omega) qw4) rfl 2 (by decide) (hA9 _ mfV_18) (fun _ h9 => h9) rfl (by decide +kernel) rfl rfl (Nat.le_of_ble_eq_true rfl) dV_init_22 (fun H locs hP hD hS => ?_)
  replace hP : va_P D CLS ((wx (k + 3) ad3 ce4).set k (ad3 k, .inr (0, [.ref (ad3 (k + 1)), .ref (ad3 (k + 2)), .int (nI 0), .int 0]))) H := hP
  replace hD : va_D A ((wx (k + 3) ad3 ce4).set k (ad3 k, .inr (0, [.ref (ad3 (k + 1)), .ref (ad3 (k + 2)), .int (nI 0), .int 0]))) := hD
  obtain ⟨ce5, hc5⟩ : ∃ z9, z9 = va_up ce4 k (.inr (0, [.ref (ad3 (k + 1)), .ref (ad3 (k + 2)), .int (nI 0), .int 0])) := ⟨_, rfl⟩
  rw [wx_set (by omega), ← hc5] at hP hD
  have fc5 : ∀ j, j < k → ce5 j = ce j := fun j h => (by rw [hc5, va_up_ne _ _ (by omega)] : ce5 j = ce4 j).trans (fc4 j h)
  have q5_k___1 : ce5 (k + 1) = .inl (cI, 126, .inl (fun _ => 0)) := by rw [hc5, va_up_ne _ _ (by omega), q4_k___1]
  have q5_k___2 : ce5 (k + 2) = .inl (cI, 126, .inl (fun _ => 0)) := by rw [hc5, va_up_ne _ _ (by omega), q4_k___2]
  have qw5 : ce5 k = .inr (0, [.ref (ad3 (k + 1)), .ref (ad3 (k + 2)), .int (nI 0), .int 0]) := by rw [hc5, va_up_self]
  have ec5 : ∀ j, j ≠ k → ce5 j = ce4 j := fun j h => by rw [hc5, va_up_ne _ _ h]
  clear hc5
  refine lv_aload_n hx hb dV_init_25 rfl (lv_at hl 0 rfl) ?_
  refine lv_iconst (v := nI 0) hx hb dV_init_26 (by decide +kernel) ?_
  refine va_put (D := D) (ci := 0) (v := .int (nI 0)) (ty := .int) (C := RV) (T := TV) (N := 4) hx hb hA9 inV tyV tyV_ok nmV hown hK hP hD hS k (wx_at (by omega) qw5) rfl 3 (by decide) (hA9 _ mfV_22) (fun _ h9 => h9) rfl (by decide +kernel) rfl rfl (Nat.le_of_ble_eq_true rfl) dV_init_27 (fun H locs hP hD hS => ?_)
  replace hP : va_P D CLS ((wx (k + 3) ad3 ce5).set k (ad3 k, .inr (0, [.ref (ad3 (k + 1)), .ref (ad3 (k + 2)), .int (nI 0), .int (nI 0)]))) H := hP
  replace hD : va_D A ((wx (k + 3) ad3 ce5).set k (ad3 k, .inr (0, [.ref (ad3 (k + 1)), .ref (ad3 (k + 2)), .int (nI 0), .int (nI 0)]))) := hD
  obtain ⟨ce6, hc6⟩ : ∃ z9, z9 = va_up ce5 k (.inr (0, [.ref (ad3 (k + 1)), .ref (ad3 (k + 2)), .int (nI 0), .int (nI 0)])) := ⟨_, rfl⟩
  rw [wx_set (by omega), ← hc6] at hP hD
  have fc6 : ∀ j, j < k → ce6 j = ce j := fun j h => (by rw [hc6, va_up_ne _ _ (by omega)] : ce6 j = ce5 j).trans (fc5 j h)
  have q6_k___1 : ce6 (k + 1) = .inl (cI, 126, .inl (fun _ => 0)) := by rw [hc6, va_up_ne _ _ (by omega), q5_k___1]
  have q6_k___2 : ce6 (k + 2) = .inl (cI, 126, .inl (fun _ => 0)) := by rw [hc6, va_up_ne _ _ (by omega), q5_k___2]
  have qw6 : ce6 k = .inr (0, [.ref (ad3 (k + 1)), .ref (ad3 (k + 2)), .int (nI 0), .int (nI 0)]) := by rw [hc6, va_up_self]
  have ec6 : ∀ j, j ≠ k → ce6 j = ce5 j := fun j h => by rw [hc6, va_up_ne _ _ h]
  clear hc6
  exact W.vret hx hb hr (fun t ht hW => ⟨⟨(ad3, ce6), rfl, ⟨fa3, fc6, qw6, q6_k___1, q6_k___2⟩, by rw [ht]; exact hP, va_K.moved hW.alike hK, hD⟩, hS.F ht⟩) hS.2.2 dV_init_30

set_option maxHeartbeats 4000000 in
set_option maxRecDepth 100000 in
theorem c_T_init (l : Launch) (D : va_G) (cI cO cJ : ClassId)  (ad : Nat → Nat) (ce : Nat → va_E) (sz : Nat) (h0 : ce 2 = .inr (1, [.null, .null, .null, .int 0])) : Met l yT_init (.code yT_init bT_init 2 none :: WA) ({ frames := 2, cells := 30, slots := 10313, locals := 60 }) (PN D (TY cI cO cJ) 3 ad ce sz [.ref (ad 2)]) (va_Qv (fun u : (Nat → Nat) × (Nat → va_E) => (∀ j, j < 3 → u.1 j = ad j) ∧ (∀ j, j < 2 → u.2 j = ce j) ∧ TZ cI cO u.1 u.2) (BG D (TY cI cO cJ) 33 (AW 3 ad sz)) (AW 3 ad sz)) 30 10313 (AW 3 ad sz) := by
  refine Met.ofW (cc := bT_init) (maxL := 2) (ret := none) (by decide) rfl ?_
  intro p e s m args below meth c s₁ B hml hv
  obtain ⟨rfl, hsz, hP, hK, hD0, hO⟩ := hv
  have hx := B.exec
  have hb := B.bytes
  have hr := B.returns
  have hA9 : ∀ w ∈ WA, w.before _ s = true := fun w h => atoms_spec (ws := .code yT_init bT_init 2 none :: WA) B.pre w (List.mem_cons_of_mem _ h)
  have hown : s.vm.findClass RT = some m.cls := findClass_of_methodNamed B.named
  have hlocks := B.notSynchronized
  have hin : meth.name = "<init>" := (name_of_methodNamed B.named B.method).1
  subst hsz
  have hD := aw_D (sz := s.heap.size) hD0
  generalize hAe : AW 3 ad s.heap.size = A at hD ⊢
  have hA : ∀ q, s.heap.size ≤ q → A q := fun q h => by rw [← hAe]; exact Or.inr h
  clear hAe hD0
  have hl := lv_entry ([.ref (ad 2)]) (n := 2) (Nat.le_of_ble_eq_true rfl)
  rw [lg_entry_eq]
  generalize (lg_sl ([.ref (ad 2)]) ++ List.replicate (2 - (lg_sl ([.ref (ad 2)])).length) Slot.unset).toArray = ls at hl ⊢
  have hl : lv_has ls 2 [(0, .ref (ad 2))] := hl
  refine st0 (A := A) (fun H locs hS hH => ?_)
  rw [← hH] at hP
  clear hH
  refine lv_aload_n hx hb dT_init_0 rfl (lv_at hl 0 rfl) ?_
  refine W.objInit hx hb hown (hA9 _ mlT_3) (hA9 _ miobjectInit) (hA9 _ mkobj) rfl (by rw [hml]; exact hl.1) rfl dT_init_1 (Nat.le_of_ble_eq_true rfl) (Nat.le_of_ble_eq_true rfl) ?_
  refine W.eq (g2 := F0 m 4 ls []) rfl ?_
  refine lv_aload_n hx hb dT_init_4 rfl (lv_at hl 0 rfl) ?_
  refine lv_bipush (v := nI 9) hx hb dT_init_5 (by decide +kernel) ?_
  refine ix_newO (n := 9) hx hb hown (hA9 _ mcT_9) hO hK hP hD hS hA (by omega) (Nat.le_of_ble_eq_true rfl) (Nat.le_of_ble_eq_true rfl) dT_init_7 (fun q H hP hD hS => ?_)
  obtain ⟨ad1, hd1⟩ : ∃ z9, z9 = va_up ad 3 q := ⟨_, rfl⟩
  obtain ⟨ce1, hc1⟩ : ∃ z9, z9 = va_up ce 3 (.inl (cO, 9, .inr (.inr (.inr (.inr (fun _ => none)))))) := ⟨_, rfl⟩
  rw [← hd1, ← hc1] at hP hD
  have eq1 : q = ad1 3 := by rw [hd1, va_up_self]
  have ed1 : ∀ j, j < 3 → ad j = ad1 j := fun j h => by rw [hd1, va_up_ne _ _ (by omega)]
  have ec1 : ∀ j, j < 3 → ce1 j = ce j := fun j h => by rw [hc1, va_up_ne _ _ (by omega)]
  have fa1 : ∀ j, j < 3 → ad1 j = ad j := fun j h => (ed1 j (by omega)).symm.trans ((fun _ _ => rfl) j h)
  have fc1 : ∀ j, j < 2 → ce1 j = ce j := fun j h => (ec1 j (by omega)).trans ((fun _ _ => rfl) j h)
  have q1_2 : ce1 2 = .inr (1, [.null, .null, .null, .int 0]) := by rw [ec1 2 (by omega), h0]
  have qn1 : ce1 3 = .inl (cO, 9, .inr (.inr (.inr (.inr (fun _ => none))))) := by rw [hc1, va_up_self]
  replace hl : lv_has ls 2 [(0, .ref (ad1 2))] := by rw [← ed1 2 (by omega)]; exact hl
  refine W.eq (g2 := F0 m 10 ls [.ref (ad1 3), .ref (ad1 2)]) (by rw [eq1, ed1 2 (by omega)]) ?_
  clear hd1 hc1
  refine va_putF (D := D) (ci := 1) (v := .ref (ad1 3)) (ty := .array (.object "LevelTree$Level")) (C := RT) (T := TT) (N := 4) hx hb hA9 inT tyT tyT_ok nmT hown hK hP hD hS 2 (wx_at (by omega) q1_2) rfl 0 (by decide) (hA9 _ mfT_11) (fun _ h9 => h9) rfl hin rfl (by decide +kernel) rfl rfl (Nat.le_of_ble_eq_true rfl) dT_init_10 (fun H locs hP hD hS => ?_)
  replace hP : va_P D CLS ((wx 4 ad1 ce1).set 2 (ad1 2, .inr (1, [.ref (ad1 3), .null, .null, .int 0]))) H := hP
  replace hD : va_D A ((wx 4 ad1 ce1).set 2 (ad1 2, .inr (1, [.ref (ad1 3), .null, .null, .int 0]))) := hD
  obtain ⟨ce2, hc2⟩ : ∃ z9, z9 = va_up ce1 2 (.inr (1, [.ref (ad1 3), .null, .null, .int 0])) := ⟨_, rfl⟩
  rw [wx_set (by omega), ← hc2] at hP hD
  have fc2 : ∀ j, j < 2 → ce2 j = ce j := fun j h => (by rw [hc2, va_up_ne _ _ (by omega)] : ce2 j = ce1 j).trans (fc1 j h)
  have q2_3 : ce2 3 = .inl (cO, 9, .inr (.inr (.inr (.inr (fun _ => none))))) := by rw [hc2, va_up_ne _ _ (by omega), qn1]
  have qw2 : ce2 2 = .inr (1, [.ref (ad1 3), .null, .null, .int 0]) := by rw [hc2, va_up_self]
  have ec2 : ∀ j, j ≠ 2 → ce2 j = ce1 j := fun j h => by rw [hc2, va_up_ne _ _ h]
  clear hc2
  refine lv_aload_n hx hb dT_init_13 rfl (lv_at hl 0 rfl) ?_
  refine lv_sipush (v := nI 4000) hx hb dT_init_14 (by decide +kernel) ?_
  refine ix_newI (n := 4000) hx hb (hA9 _ ma_int) hK hP hD hS hA (by omega) (Nat.le_of_ble_eq_true rfl) (Nat.le_of_ble_eq_true rfl) dT_init_17 (fun q H hP hD hS => ?_)
  obtain ⟨ad3, hd3⟩ : ∃ z9, z9 = va_up ad1 4 q := ⟨_, rfl⟩
  obtain ⟨ce3, hc3⟩ : ∃ z9, z9 = va_up ce2 4 (.inl (cI, 4000, .inl (fun _ => 0))) := ⟨_, rfl⟩
  rw [← hd3, ← hc3] at hP hD
  have eq3 : q = ad3 4 := by rw [hd3, va_up_self]
  have ed3 : ∀ j, j < 4 → ad1 j = ad3 j := fun j h => by rw [hd3, va_up_ne _ _ (by omega)]
  have ec3 : ∀ j, j < 4 → ce3 j = ce2 j := fun j h => by rw [hc3, va_up_ne _ _ (by omega)]
  have fa3 : ∀ j, j < 3 → ad3 j = ad j := fun j h => (ed3 j (by omega)).symm.trans (fa1 j h)
  have fc3 : ∀ j, j < 2 → ce3 j = ce j := fun j h => (ec3 j (by omega)).trans (fc2 j h)
  have q3_2 : ce3 2 = .inr (1, [.ref (ad3 3), .null, .null, .int 0]) := by rw [ec3 2 (by omega), qw2, ed3 3 (by omega)]
  have q3_3 : ce3 3 = .inl (cO, 9, .inr (.inr (.inr (.inr (fun _ => none))))) := by rw [ec3 3 (by omega), q2_3]
  have qn3 : ce3 4 = .inl (cI, 4000, .inl (fun _ => 0)) := by rw [hc3, va_up_self]
  replace hl : lv_has ls 2 [(0, .ref (ad3 2))] := by rw [← ed3 2 (by omega)]; exact hl
  refine W.eq (g2 := F0 m 19 ls [.ref (ad3 4), .ref (ad3 2)]) (by rw [eq3, ed3 2 (by omega)]) ?_
  clear hd3 hc3
  refine va_putF (D := D) (ci := 1) (v := .ref (ad3 4)) (ty := .array .int) (C := RT) (T := TT) (N := 4) hx hb hA9 inT tyT tyT_ok nmT hown hK hP hD hS 2 (wx_at (by omega) q3_2) rfl 1 (by decide) (hA9 _ mfT_17) (fun _ h9 => h9) rfl hin rfl (by decide +kernel) rfl rfl (Nat.le_of_ble_eq_true rfl) dT_init_19 (fun H locs hP hD hS => ?_)
  replace hP : va_P D CLS ((wx 5 ad3 ce3).set 2 (ad3 2, .inr (1, [.ref (ad3 3), .ref (ad3 4), .null, .int 0]))) H := hP
  replace hD : va_D A ((wx 5 ad3 ce3).set 2 (ad3 2, .inr (1, [.ref (ad3 3), .ref (ad3 4), .null, .int 0]))) := hD
  obtain ⟨ce4, hc4⟩ : ∃ z9, z9 = va_up ce3 2 (.inr (1, [.ref (ad3 3), .ref (ad3 4), .null, .int 0])) := ⟨_, rfl⟩
  rw [wx_set (by omega), ← hc4] at hP hD
  have fc4 : ∀ j, j < 2 → ce4 j = ce j := fun j h => (by rw [hc4, va_up_ne _ _ (by omega)] : ce4 j = ce3 j).trans (fc3 j h)
  have q4_3 : ce4 3 = .inl (cO, 9, .inr (.inr (.inr (.inr (fun _ => none))))) := by rw [hc4, va_up_ne _ _ (by omega), q3_3]
  have q4_4 : ce4 4 = .inl (cI, 4000, .inl (fun _ => 0)) := by rw [hc4, va_up_ne _ _ (by omega), qn3]
  have qw4 : ce4 2 = .inr (1, [.ref (ad3 3), .ref (ad3 4), .null, .int 0]) := by rw [hc4, va_up_self]
  have ec4 : ∀ j, j ≠ 2 → ce4 j = ce3 j := fun j h => by rw [hc4, va_up_ne _ _ h]
  clear hc4
  refine lv_aload_n hx hb dT_init_22 rfl (lv_at hl 0 rfl) ?_
  refine lv_sipush (v := nI 4000) hx hb dT_init_23 (by decide +kernel) ?_
  refine ix_newI (n := 4000) hx hb (hA9 _ ma_int) hK hP hD hS hA (by omega) (Nat.le_of_ble_eq_true rfl) (Nat.le_of_ble_eq_true rfl) dT_init_26 (fun q H hP hD hS => ?_)
  obtain ⟨ad5, hd5⟩ : ∃ z9, z9 = va_up ad3 5 q := ⟨_, rfl⟩
  obtain ⟨ce5, hc5⟩ : ∃ z9, z9 = va_up ce4 5 (.inl (cI, 4000, .inl (fun _ => 0))) := ⟨_, rfl⟩
  rw [← hd5, ← hc5] at hP hD
  have eq5 : q = ad5 5 := by rw [hd5, va_up_self]
  have ed5 : ∀ j, j < 5 → ad3 j = ad5 j := fun j h => by rw [hd5, va_up_ne _ _ (by omega)]
  have ec5 : ∀ j, j < 5 → ce5 j = ce4 j := fun j h => by rw [hc5, va_up_ne _ _ (by omega)]
  have fa5 : ∀ j, j < 3 → ad5 j = ad j := fun j h => (ed5 j (by omega)).symm.trans (fa3 j h)
  have fc5 : ∀ j, j < 2 → ce5 j = ce j := fun j h => (ec5 j (by omega)).trans (fc4 j h)
  have q5_2 : ce5 2 = .inr (1, [.ref (ad5 3), .ref (ad5 4), .null, .int 0]) := by rw [ec5 2 (by omega), qw4, ed5 3 (by omega), ed5 4 (by omega)]
  have q5_3 : ce5 3 = .inl (cO, 9, .inr (.inr (.inr (.inr (fun _ => none))))) := by rw [ec5 3 (by omega), q4_3]
  have q5_4 : ce5 4 = .inl (cI, 4000, .inl (fun _ => 0)) := by rw [ec5 4 (by omega), q4_4]
  have qn5 : ce5 5 = .inl (cI, 4000, .inl (fun _ => 0)) := by rw [hc5, va_up_self]
  replace hl : lv_has ls 2 [(0, .ref (ad5 2))] := by rw [← ed5 2 (by omega)]; exact hl
  refine W.eq (g2 := F0 m 28 ls [.ref (ad5 5), .ref (ad5 2)]) (by rw [eq5, ed5 2 (by omega)]) ?_
  clear hd5 hc5
  refine va_putF (D := D) (ci := 1) (v := .ref (ad5 5)) (ty := .array .int) (C := RT) (T := TT) (N := 4) hx hb hA9 inT tyT tyT_ok nmT hown hK hP hD hS 2 (wx_at (by omega) q5_2) rfl 2 (by decide) (hA9 _ mfT_21) (fun _ h9 => h9) rfl hin rfl (by decide +kernel) rfl rfl (Nat.le_of_ble_eq_true rfl) dT_init_28 (fun H locs hP hD hS => ?_)
  replace hP : va_P D CLS ((wx 6 ad5 ce5).set 2 (ad5 2, .inr (1, [.ref (ad5 3), .ref (ad5 4), .ref (ad5 5), .int 0]))) H := hP
  replace hD : va_D A ((wx 6 ad5 ce5).set 2 (ad5 2, .inr (1, [.ref (ad5 3), .ref (ad5 4), .ref (ad5 5), .int 0]))) := hD
  obtain ⟨ce6, hc6⟩ : ∃ z9, z9 = va_up ce5 2 (.inr (1, [.ref (ad5 3), .ref (ad5 4), .ref (ad5 5), .int 0])) := ⟨_, rfl⟩
  rw [wx_set (by omega), ← hc6] at hP hD
  have fc6 : ∀ j, j < 2 → ce6 j = ce j := fun j h => (by rw [hc6, va_up_ne _ _ (by omega)] : ce6 j = ce5 j).trans (fc5 j h)
  have q6_3 : ce6 3 = .inl (cO, 9, .inr (.inr (.inr (.inr (fun _ => none))))) := by rw [hc6, va_up_ne _ _ (by omega), q5_3]
  have q6_4 : ce6 4 = .inl (cI, 4000, .inl (fun _ => 0)) := by rw [hc6, va_up_ne _ _ (by omega), q5_4]
  have q6_5 : ce6 5 = .inl (cI, 4000, .inl (fun _ => 0)) := by rw [hc6, va_up_ne _ _ (by omega), qn5]
  have qw6 : ce6 2 = .inr (1, [.ref (ad5 3), .ref (ad5 4), .ref (ad5 5), .int 0]) := by rw [hc6, va_up_self]
  have ec6 : ∀ j, j ≠ 2 → ce6 j = ce5 j := fun j h => by rw [hc6, va_up_ne _ _ h]
  clear hc6
  refine lv_iconst (v := nI 0) hx hb dT_init_31 (by decide +kernel) ?_
  refine lv_istore_n (lv' := [(1, .int (nI 0)), (0, .ref (ad5 2))]) hx hb dT_init_32 rfl hl (by decide) rfl (fun ls hl => ?_)
  obtain ⟨d, hd0⟩ : ∃ z9 : Nat, z9 = 0 := ⟨_, rfl⟩
  obtain ⟨lv, hlv0⟩ : ∃ z9 : Nat → Option Nat, z9 = fun _ => none := ⟨_, rfl⟩
  obtain ⟨al, hal0⟩ : ∃ z9 : Nat → Nat, z9 = ad5 := ⟨_, rfl⟩
  obtain ⟨cl, hcl0⟩ : ∃ z9 : Nat → va_E, z9 = ce6 := ⟨_, rfl⟩
  have J : d ≤ 9 ∧ (∀ j, j < 3 → al j = ad j) ∧ (∀ j, j < 2 → cl j = ce j) ∧ cl 2 = .inr (1, [.ref (al 3), .ref (al 4), .ref (al 5), .int 0]) ∧ cl 3 = .inl (cO, 9, .inr (.inr (.inr (.inr lv)))) ∧ (∀ i, i < d → lv i = some (al (6 + 3 * i))) ∧ (∀ i, i < d → LZ cI al cl (6 + 3 * i)) ∧ cl 4 = .inl (cI, 4000, .inl (fun _ => 0)) ∧ cl 5 = .inl (cI, 4000, .inl (fun _ => 0)) := by
    subst hd0 hlv0 hal0 hcl0
    exact ⟨by omega, fa5, fc6, qw6, q6_3, fun i h => absurd h (by omega), fun i h => absurd h (by omega), q6_4, q6_5⟩
  replace hl : lv_has ls 2 [(1, .int (nI d)), (0, .ref (al 2))] := by subst hd0 hal0; exact hl
  replace hP : va_P D CLS (wx (6 + 3 * d) al cl) H := by subst hd0 hal0 hcl0; exact hP
  replace hD : va_D A (wx (6 + 3 * d) al cl) := by subst hd0 hal0 hcl0; exact hD
  refine W.widen (k := 3 + 3 * d) (n := 8009 + 256 * d) (by omega) (by omega) ?_
  clear hd0 hlv0 hal0 hcl0
  obtain ⟨k9, hk9⟩ : ∃ z9 : Nat, z9 = 9 - d := ⟨_, rfl⟩
  induction k9 using Nat.strongRecOn generalizing d lv al cl H locs ls with
  | ind k9 ih =>
    obtain ⟨j1, j2, j3, j4, j5, j6, j7, j8, j9⟩ := J
    refine lv_iload_n hx hb dT_init_33 rfl (lv_at hl 0 rfl) ?_
    refine lv_bipush (v := nI 9) hx hb dT_init_34 (by decide +kernel) ?_
    refine lv_icmp_ge (tgt := 58) hx hb dT_init_36 (by decide) (fun c36 => ?_) (fun c36 => ?_)
    · obtain rfl : d = 9 := by have := leN c36; omega
      refine lv_aload_n hx hb dT_init_58 rfl (lv_at hl 1 rfl) ?_
      refine lv_iconst (v := nI 0) hx hb dT_init_59 (by decide +kernel) ?_
      refine va_put (D := D) (ci := 1) (v := .int (nI 0)) (ty := .int) (C := RT) (T := TT) (N := 4) hx hb hA9 inT tyT tyT_ok nmT hown hK hP hD hS 2 (wx_at (by omega) j4) rfl 3 (by decide) (hA9 _ mfT_25) (fun _ h9 => h9) rfl (by decide +kernel) rfl rfl (Nat.le_of_ble_eq_true rfl) dT_init_60 (fun H locs hP hD hS => ?_)
      replace hP : va_P D CLS ((wx 33 al cl).set 2 (al 2, .inr (1, [.ref (al 3), .ref (al 4), .ref (al 5), .int (nI 0)]))) H := hP
      replace hD : va_D A ((wx 33 al cl).set 2 (al 2, .inr (1, [.ref (al 3), .ref (al 4), .ref (al 5), .int (nI 0)]))) := hD
      obtain ⟨ce7, hc7⟩ : ∃ z9, z9 = va_up cl 2 (.inr (1, [.ref (al 3), .ref (al 4), .ref (al 5), .int (nI 0)])) := ⟨_, rfl⟩
      rw [wx_set (by omega), ← hc7] at hP hD
      have fc7 : ∀ j, j < 2 → ce7 j = ce j := fun j h => (by rw [hc7, va_up_ne _ _ (by omega)] : ce7 j = cl j).trans (j3 j h)
      have q7_3 : ce7 3 = .inl (cO, 9, .inr (.inr (.inr (.inr lv)))) := by rw [hc7, va_up_ne _ _ (by omega), j5]
      have q7_4 : ce7 4 = .inl (cI, 4000, .inl (fun _ => 0)) := by rw [hc7, va_up_ne _ _ (by omega), j8]
      have q7_5 : ce7 5 = .inl (cI, 4000, .inl (fun _ => 0)) := by rw [hc7, va_up_ne _ _ (by omega), j9]
      have qw7 : ce7 2 = .inr (1, [.ref (al 3), .ref (al 4), .ref (al 5), .int (nI 0)]) := by rw [hc7, va_up_self]
      have ec7 : ∀ j, j ≠ 2 → ce7 j = cl j := fun j h => by rw [hc7, va_up_ne _ _ h]
      clear hc7
      exact W.vret hx hb hr (fun t ht hW => ⟨⟨(al, ce7), rfl, ⟨j2, fc7, qw7, ⟨lv, q7_3, j6⟩, fun i h => (j7 i h).cg (fun _ _ _ => rfl) (fun j q1 q2 => ec7 j (by omega)), q7_4, q7_5⟩, by rw [ht]; exact hP, va_K.moved hW.alike hK, hD⟩, hS.F ht⟩) hS.2.2 dT_init_63
    · skip
      have hd : d < 9 := by have := nleN c36; omega
      refine lv_aload_n hx hb dT_init_39 rfl (lv_at hl 1 rfl) ?_
      refine va_get (D := D) (ci := 1) (v := .ref (al 3)) (C := RT) (T := TT) (N := 4) hx hb hA9 inT hown hK hP 2 (wx_at (by omega) j4) rfl 0 (by decide) (hA9 _ mfT_11) (fun _ h9 => h9) rfl dT_init_40 ?_
      refine lv_iload_n hx hb dT_init_43 rfl (lv_at hl 0 rfl) ?_
      have r1 : 3 + 3 * d + 1 ≤ 30 := by omega
      have r2 : 8009 + 256 * d + 4 ≤ 10313 := by omega
      have r3 : 3 + 3 * d + 1 + 2 ≤ 30 := by omega
      have r4 : 8009 + 256 * d + 4 + 252 ≤ 10313 := by omega
      refine va_new (D := D) (ci := 0) (C := RV) (T := TV) (N := 4) (fs := [.null, .null, .int 0, .int 0]) hx hb hA9 inV tyV tyV_ok hown (hA9 _ mcT_9) (hA9 _ mo_V) (hA9 _ mn_V) hK hP hD hS hA rfl (by decide +kernel) r1 r2 dT_init_44 (fun q H hP hD hS => ?_)
      rw [wx_push] at hP hD
      obtain ⟨ad8, hd8⟩ : ∃ z9, z9 = va_up al (6 + 3 * d) q := ⟨_, rfl⟩
      obtain ⟨ce8, hc8⟩ : ∃ z9, z9 = va_up cl (6 + 3 * d) (.inr (0, [.null, .null, .int 0, .int 0])) := ⟨_, rfl⟩
      rw [← hd8, ← hc8] at hP hD
      have eq8 : q = ad8 (6 + 3 * d) := by rw [hd8, va_up_self]
      have ed8 : ∀ j, j < 6 + 3 * d → al j = ad8 j := fun j h => by rw [hd8, va_up_ne _ _ (by omega)]
      have ec8 : ∀ j, j < 6 + 3 * d → ce8 j = cl j := fun j h => by rw [hc8, va_up_ne _ _ (by omega)]
      have fa8 : ∀ j, j < 3 → ad8 j = ad j := fun j h => (ed8 j (by omega)).symm.trans (j2 j h)
      have fc8 : ∀ j, j < 2 → ce8 j = ce j := fun j h => (ec8 j (by omega)).trans (j3 j h)
      have q8_2 : ce8 2 = .inr (1, [.ref (ad8 3), .ref (ad8 4), .ref (ad8 5), .int 0]) := by rw [ec8 2 (by omega), j4, ed8 3 (by omega), ed8 4 (by omega), ed8 5 (by omega)]
      have q8_3 : ce8 3 = .inl (cO, 9, .inr (.inr (.inr (.inr lv)))) := by rw [ec8 3 (by omega), j5]
      have q8_4 : ce8 4 = .inl (cI, 4000, .inl (fun _ => 0)) := by rw [ec8 4 (by omega), j8]
      have q8_5 : ce8 5 = .inl (cI, 4000, .inl (fun _ => 0)) := by rw [ec8 5 (by omega), j9]
      have qn8 : ce8 (6 + 3 * d) = .inr (0, [.null, .null, .int 0, .int 0]) := by rw [hc8, va_up_self]
      replace hl : lv_has ls 2 [(1, .int (nI d)), (0, .ref (ad8 2))] := by rw [← ed8 2 (by omega)]; exact hl
      refine W.eq (g2 := F0 m 47 ls [.ref (ad8 (6 + 3 * d)), .int (nI d), .ref (ad8 3)]) (by rw [eq8, ed8 3 (by omega)]) ?_
      clear hd8 hc8
      refine lv_dup hx hb dT_init_47 rfl ?_
      refine cg (va_runI (As := []) (rest := [.ref (ad8 (6 + 3 * d)), .int (nI d), .ref (ad8 3)]) ⟨hx, hb, hml, hown, hA9⟩ (c_V_init l D cI cO cJ (6 + 3 * d) ad8 ce8 _ qn8) (cwI 0 hA9 (gI mkV_init) rfl rfl rfl (hA9 _ mn_V) (hA9 _ mlT_24) (hA9 _ miV_init) rfl (by decide +kernel) ⟨Nat.le_of_ble_eq_true rfl, Nat.le_of_ble_eq_true rfl⟩) ⟨PM_bl, PM_mk hK hP hD⟩ rfl rfl hl.1 rfl (lv_room (Nat.le_of_ble_eq_true rfl)) dT_init_48 ⟨r3, r4⟩) hS hD hA (fun ad9 ce9 H locs hpost hP hD hS => ?_)
      obtain ⟨xa, xc, xl⟩ : (∀ j, j < 6 + 3 * d + 1 → ad9 j = ad8 j) ∧ (∀ j, j < 6 + 3 * d → ce9 j = ce8 j) ∧ LZ cI ad9 ce9 (6 + 3 * d) := hpost
      have ed9 : ∀ j, j < 6 + 3 * d + 1 → ad8 j = ad9 j := fun j h => (xa j h).symm
      have q9_2 : ce9 2 = .inr (1, [.ref (ad9 3), .ref (ad9 4), .ref (ad9 5), .int 0]) := by rw [xc 2 (by omega), q8_2, ed9 3 (by omega), ed9 4 (by omega), ed9 5 (by omega)]
      have q9_3 : ce9 3 = .inl (cO, 9, .inr (.inr (.inr (.inr lv)))) := by rw [xc 3 (by omega), q8_3]
      have q9_4 : ce9 4 = .inl (cI, 4000, .inl (fun _ => 0)) := by rw [xc 4 (by omega), q8_4]
      have q9_5 : ce9 5 = .inl (cI, 4000, .inl (fun _ => 0)) := by rw [xc 5 (by omega), q8_5]
      replace hl : lv_has ls 2 [(1, .int (nI d)), (0, .ref (ad9 2))] := by rw [← ed9 2 (by omega)]; exact hl
      refine W.eq (g2 := F0 m 51 ls [.ref (ad9 (6 + 3 * d)), .int (nI d), .ref (ad9 3)]) (by rw [ed9 (6 + 3 * d) (by omega), ed9 3 (by omega)]) ?_
      refine va_astq (r := (RV, TV, 4)) hx hb hK hP hD hS 3 1 (6 + 3 * d) 0 (wx_at (by omega) q9_3) rfl (wx_at (by omega) xl.1) rfl (inN) dT_init_51 (fun H locs hP hD hS => ?_)
      rw [clN (a := d)] at hP hD
      have fc9 : ∀ j, j < 2 → ce9 j = ce j := fun j h => (xc j (by omega)).trans (fc8 j h)
      obtain ⟨ce10, hc10⟩ : ∃ z9, z9 = va_up ce9 3 (.inl (cO, 9, .inr (.inr (.inr (.inr (va_up lv d (some (ad9 (6 + 3 * d))))))))) := ⟨_, rfl⟩
      rw [wx_set (by omega), ← hc10] at hP hD
      have fc10 : ∀ j, j < 2 → ce10 j = ce j := fun j h => (by rw [hc10, va_up_ne _ _ (by omega)] : ce10 j = ce9 j).trans (fc9 j h)
      have q10_2 : ce10 2 = .inr (1, [.ref (ad9 3), .ref (ad9 4), .ref (ad9 5), .int 0]) := by rw [hc10, va_up_ne _ _ (by omega), q9_2]
      have q10_4 : ce10 4 = .inl (cI, 4000, .inl (fun _ => 0)) := by rw [hc10, va_up_ne _ _ (by omega), q9_4]
      have q10_5 : ce10 5 = .inl (cI, 4000, .inl (fun _ => 0)) := by rw [hc10, va_up_ne _ _ (by omega), q9_5]
      have qw10 : ce10 3 = .inl (cO, 9, .inr (.inr (.inr (.inr (va_up lv d (some (ad9 (6 + 3 * d)))))))) := by rw [hc10, va_up_self]
      have ec10 : ∀ j, j ≠ 3 → ce10 j = ce9 j := fun j h => by rw [hc10, va_up_ne _ _ h]
      clear hc10
      refine lv_iinc (v := nI (d + 1)) (lv' := [(1, .int (nI (d + 1))), (0, .ref (ad9 2))]) hx hb dT_init_52 hl (k := 0) rfl (nI_1 _) (by decide) rfl (fun ls hl => ?_)
      refine lv_goto (tgt := 33) hx hb dT_init_55 (by decide) ?_
      have xe : ∀ j, j < 6 + 3 * d → j ≠ 3 → ce10 j = cl j := fun j h1 h2 => by rw [ec10 j h2, xc j h1, ec8 j h1]
      have xd : ∀ j, j < 6 + 3 * d → ad9 j = al j := fun j h1 => by rw [xa j (by omega), ← ed8 j h1]
      refine W.widen (k := 3 + 3 * (d + 1)) (n := 8009 + 256 * (d + 1)) (by omega) (by omega) ?_
      exact ih _ (by omega) (d := d + 1) (lv := va_up lv d (some (ad9 (6 + 3 * d)))) (al := ad9) (cl := ce10) (H := H) (locs := locs) (ls := ls) (hP := hP) (hD := hD) (hS := hS) (hl := hl) (hk9 := rfl)
        (J := ⟨by omega, fun j h => (xd j (by omega)).trans (j2 j h), fun j h => (xe j (by omega) (by omega)).trans (j3 j h), q10_2, qw10, fun i h => by
          rcases Nat.lt_or_ge i d with q | q
          · rw [va_up_ne _ _ (by omega), j6 i q, xd _ (by omega)]
          · rw [show i = d by omega, va_up_self], fun i h => by
          rcases Nat.lt_or_ge i d with q | q
          · exact (j7 i q).cg (fun j q1 q2 => xd j (by omega)) (fun j q1 q2 => xe j (by omega) (by omega))
          · obtain rfl : i = d := by omega
            exact xl.cg (fun _ _ _ => rfl) (fun j q1 q2 => ec10 j (by omega)), q10_4, q10_5⟩)

set_option maxHeartbeats 4000000 in
set_option maxRecDepth 100000 in
theorem c_L_init (l : Launch) (D : va_G) (cI cO cJ : ClassId)  (ad : Nat → Nat) (ce : Nat → va_E) (sz : Nat) (h0 : ce 0 = .inr (2, [.null, .null, .null, .int 0, .int 0])) : Met l yL_init (.code yL_init bL_init 1 none :: WA) ({ frames := 3, cells := 33, slots := 14829, locals := 81 }) (PN D (TY cI cO cJ) 1 ad ce sz [.ref (ad 0)]) (va_Qv (fun u : (Nat → Nat) × (Nat → va_E) => u.1 0 = ad 0 ∧ u.2 0 = .inr (2, [.ref (u.1 1), .ref (u.1 2), .ref (u.1 33), .int (nI 0), .int (nI 0)]) ∧ u.2 1 = .inl (cI, 4000, .inl (fun _ => 0)) ∧ TZ cI cO u.1 u.2 ∧ u.2 33 = .inl (cI, 512, .inl (fun _ => 0))) (BG D (TY cI cO cJ) 34 (AW 1 ad sz)) (AW 1 ad sz)) 33 14829 (AW 1 ad sz) := by
  refine Met.ofW (cc := bL_init) (maxL := 1) (ret := none) (by decide) rfl ?_
  intro p e s m args below meth c s₁ B hml hv
  obtain ⟨rfl, hsz, hP, hK, hD0, hO⟩ := hv
  have hx := B.exec
  have hb := B.bytes
  have hr := B.returns
  have hA9 : ∀ w ∈ WA, w.before _ s = true := fun w h => atoms_spec (ws := .code yL_init bL_init 1 none :: WA) B.pre w (List.mem_cons_of_mem _ h)
  have hown : s.vm.findClass RL = some m.cls := findClass_of_methodNamed B.named
  have hlocks := B.notSynchronized
  have hin : meth.name = "<init>" := (name_of_methodNamed B.named B.method).1
  subst hsz
  have hD := aw_D (sz := s.heap.size) hD0
  generalize hAe : AW 1 ad s.heap.size = A at hD ⊢
  have hA : ∀ q, s.heap.size ≤ q → A q := fun q h => by rw [← hAe]; exact Or.inr h
  clear hAe hD0
  have hl := lv_entry ([.ref (ad 0)]) (n := 1) (Nat.le_of_ble_eq_true rfl)
  rw [lg_entry_eq]
  generalize (lg_sl ([.ref (ad 0)]) ++ List.replicate (1 - (lg_sl ([.ref (ad 0)])).length) Slot.unset).toArray = ls at hl ⊢
  have hl : lv_has ls 1 [(0, .ref (ad 0))] := hl
  refine st0 (A := A) (fun H locs hS hH => ?_)
  rw [← hH] at hP
  clear hH
  refine lv_aload_n hx hb dL_init_0 rfl (lv_at hl 0 rfl) ?_
  refine W.objInit hx hb hown (hA9 _ mlL_3) (hA9 _ miobjectInit) (hA9 _ mkobj) rfl (by rw [hml]; exact hl.1) rfl dL_init_1 (Nat.le_of_ble_eq_true rfl) (Nat.le_of_ble_eq_true rfl) ?_
  refine W.eq (g2 := F0 m 4 ls []) rfl ?_
  refine lv_aload_n hx hb dL_init_4 rfl (lv_at hl 0 rfl) ?_
  refine lv_sipush (v := nI 4000) hx hb dL_init_5 (by decide +kernel) ?_
  refine ix_newI (n := 4000) hx hb (hA9 _ ma_int) hK hP hD hS hA (by omega) (Nat.le_of_ble_eq_true rfl) (Nat.le_of_ble_eq_true rfl) dL_init_8 (fun q H hP hD hS => ?_)
  obtain ⟨ad1, hd1⟩ : ∃ z9, z9 = va_up ad 1 q := ⟨_, rfl⟩
  obtain ⟨ce1, hc1⟩ : ∃ z9, z9 = va_up ce 1 (.inl (cI, 4000, .inl (fun _ => 0))) := ⟨_, rfl⟩
  rw [← hd1, ← hc1] at hP hD
  have eq1 : q = ad1 1 := by rw [hd1, va_up_self]
  have ed1 : ∀ j, j < 1 → ad j = ad1 j := fun j h => by rw [hd1, va_up_ne _ _ (by omega)]
  have ec1 : ∀ j, j < 1 → ce1 j = ce j := fun j h => by rw [hc1, va_up_ne _ _ (by omega)]
  have fa1 : ∀ j, j < 1 → ad1 j = ad j := fun j h => (ed1 j (by omega)).symm.trans ((fun _ _ => rfl) j h)
  have fc1 : ∀ j, j < 0 → ce1 j = ce j := fun j h => (ec1 j (by omega)).trans ((fun _ _ => rfl) j h)
  have q1_0 : ce1 0 = .inr (2, [.null, .null, .null, .int 0, .int 0]) := by rw [ec1 0 (by omega), h0]
  have qn1 : ce1 1 = .inl (cI, 4000, .inl (fun _ => 0)) := by rw [hc1, va_up_self]
  replace hl : lv_has ls 1 [(0, .ref (ad1 0))] := by rw [← ed1 0 (by omega)]; exact hl
  refine W.eq (g2 := F0 m 10 ls [.ref (ad1 1), .ref (ad1 0)]) (by rw [eq1, ed1 0 (by omega)]) ?_
  clear hd1 hc1
  refine va_putF (D := D) (ci := 2) (v := .ref (ad1 1)) (ty := .array .int) (C := RL) (T := TL) (N := 5) hx hb hA9 inL tyL tyL_ok nmL hown hK hP hD hS 0 (wx_at (by omega) q1_0) rfl 0 (by decide) (hA9 _ mfL_9) (fun _ h9 => h9) rfl hin rfl (by decide +kernel) rfl rfl (Nat.le_of_ble_eq_true rfl) dL_init_10 (fun H locs hP hD hS => ?_)
  replace hP : va_P D CLS ((wx 2 ad1 ce1).set 0 (ad1 0, .inr (2, [.ref (ad1 1), .null, .null, .int 0, .int 0]))) H := hP
  replace hD : va_D A ((wx 2 ad1 ce1).set 0 (ad1 0, .inr (2, [.ref (ad1 1), .null, .null, .int 0, .int 0]))) := hD
  obtain ⟨ce2, hc2⟩ : ∃ z9, z9 = va_up ce1 0 (.inr (2, [.ref (ad1 1), .null, .null, .int 0, .int 0])) := ⟨_, rfl⟩
  rw [wx_set (by omega), ← hc2] at hP hD
  have fc2 : ∀ j, j < 0 → ce2 j = ce j := fun j h => (by rw [hc2, va_up_ne _ _ (by omega)] : ce2 j = ce1 j).trans (fc1 j h)
  have q2_1 : ce2 1 = .inl (cI, 4000, .inl (fun _ => 0)) := by rw [hc2, va_up_ne _ _ (by omega), qn1]
  have qw2 : ce2 0 = .inr (2, [.ref (ad1 1), .null, .null, .int 0, .int 0]) := by rw [hc2, va_up_self]
  have ec2 : ∀ j, j ≠ 0 → ce2 j = ce1 j := fun j h => by rw [hc2, va_up_ne _ _ h]
  clear hc2
  refine lv_aload_n hx hb dL_init_13 rfl (lv_at hl 0 rfl) ?_
  refine va_new (D := D) (ci := 1) (C := RT) (T := TT) (N := 4) (fs := [.null, .null, .null, .int 0]) hx hb hA9 inT tyT tyT_ok hown (hA9 _ mcL_13) (hA9 _ mo_T) (hA9 _ mn_T) hK hP hD hS hA rfl (by decide +kernel) (Nat.le_of_ble_eq_true rfl) (Nat.le_of_ble_eq_true rfl) dL_init_14 (fun q H hP hD hS => ?_)
  rw [wx_push] at hP hD
  obtain ⟨ad3, hd3⟩ : ∃ z9, z9 = va_up ad1 2 q := ⟨_, rfl⟩
  obtain ⟨ce3, hc3⟩ : ∃ z9, z9 = va_up ce2 2 (.inr (1, [.null, .null, .null, .int 0])) := ⟨_, rfl⟩
  rw [← hd3, ← hc3] at hP hD
  have eq3 : q = ad3 2 := by rw [hd3, va_up_self]
  have ed3 : ∀ j, j < 2 → ad1 j = ad3 j := fun j h => by rw [hd3, va_up_ne _ _ (by omega)]
  have ec3 : ∀ j, j < 2 → ce3 j = ce2 j := fun j h => by rw [hc3, va_up_ne _ _ (by omega)]
  have fa3 : ∀ j, j < 1 → ad3 j = ad j := fun j h => (ed3 j (by omega)).symm.trans (fa1 j h)
  have fc3 : ∀ j, j < 0 → ce3 j = ce j := fun j h => (ec3 j (by omega)).trans (fc2 j h)
  have q3_0 : ce3 0 = .inr (2, [.ref (ad3 1), .null, .null, .int 0, .int 0]) := by rw [ec3 0 (by omega), qw2, ed3 1 (by omega)]
  have q3_1 : ce3 1 = .inl (cI, 4000, .inl (fun _ => 0)) := by rw [ec3 1 (by omega), q2_1]
  have qn3 : ce3 2 = .inr (1, [.null, .null, .null, .int 0]) := by rw [hc3, va_up_self]
  replace hl : lv_has ls 1 [(0, .ref (ad3 0))] := by rw [← ed3 0 (by omega)]; exact hl
  refine W.eq (g2 := F0 m 17 ls [.ref (ad3 2), .ref (ad3 0)]) (by rw [eq3, ed3 0 (by omega)]) ?_
  clear hd3 hc3
  refine lv_dup hx hb dL_init_17 rfl ?_
  refine cg (va_runI (As := []) (rest := [.ref (ad3 2), .ref (ad3 0)]) ⟨hx, hb, hml, hown, hA9⟩ (c_T_init l D cI cO cJ ad3 ce3 _ qn3) (cwI 0 hA9 (gI mkT_init) rfl rfl rfl (hA9 _ mn_T) (hA9 _ mlL_15) (hA9 _ miT_init) rfl (by decide +kernel) ⟨Nat.le_of_ble_eq_true rfl, Nat.le_of_ble_eq_true rfl⟩) ⟨PN_bl, PN_mk hK hP hD hO⟩ rfl rfl hl.1 rfl (lv_room (Nat.le_of_ble_eq_true rfl)) dL_init_18 ⟨Nat.le_of_ble_eq_true rfl, Nat.le_of_ble_eq_true rfl⟩) hS hD hA (fun ad4 ce4 H locs hpost hP hD hS => ?_)
  obtain ⟨xa, xc, xt⟩ : (∀ j, j < 3 → ad4 j = ad3 j) ∧ (∀ j, j < 2 → ce4 j = ce3 j) ∧ TZ cI cO ad4 ce4 := hpost
  have ed4 : ∀ j, j < 3 → ad3 j = ad4 j := fun j h => (xa j h).symm
  have q4_0 : ce4 0 = .inr (2, [.ref (ad4 1), .null, .null, .int 0, .int 0]) := by rw [xc 0 (by omega), q3_0, ed4 1 (by omega)]
  have q4_1 : ce4 1 = .inl (cI, 4000, .inl (fun _ => 0)) := by rw [xc 1 (by omega), q3_1]
  have fa4 : ∀ j, j < 1 → ad4 j = ad j := fun j h => (xa j (by omega)).trans (fa3 j h)
  have fc4 : ∀ j, j < 0 → ce4 j = ce j := fun j h => absurd h (by omega)
  replace hl : lv_has ls 1 [(0, .ref (ad4 0))] := by rw [← ed4 0 (by omega)]; exact hl
  refine W.eq (g2 := F0 m 21 ls [.ref (ad4 2), .ref (ad4 0)]) (by rw [ed4 2 (by omega), ed4 0 (by omega)]) ?_
  refine va_putF (D := D) (ci := 2) (v := .ref (ad4 2)) (ty := .object "LevelTree$Tree") (C := RL) (T := TL) (N := 5) hx hb hA9 inL tyL tyL_ok nmL hown hK hP hD hS 0 (wx_at (by omega) q4_0) rfl 1 (by decide) (hA9 _ mfL_16) (fun _ h9 => h9) rfl hin rfl (by decide +kernel) rfl rfl (Nat.le_of_ble_eq_true rfl) dL_init_21 (fun H locs hP hD hS => ?_)
  replace hP : va_P D CLS ((wx 33 ad4 ce4).set 0 (ad4 0, .inr (2, [.ref (ad4 1), .ref (ad4 2), .null, .int 0, .int 0]))) H := hP
  replace hD : va_D A ((wx 33 ad4 ce4).set 0 (ad4 0, .inr (2, [.ref (ad4 1), .ref (ad4 2), .null, .int 0, .int 0]))) := hD
  obtain ⟨ce5, hc5⟩ : ∃ z9, z9 = va_up ce4 0 (.inr (2, [.ref (ad4 1), .ref (ad4 2), .null, .int 0, .int 0])) := ⟨_, rfl⟩
  rw [wx_set (by omega), ← hc5] at hP hD
  have fc5 : ∀ j, j < 0 → ce5 j = ce j := fun j h => (by rw [hc5, va_up_ne _ _ (by omega)] : ce5 j = ce4 j).trans (fc4 j h)
  have q5_1 : ce5 1 = .inl (cI, 4000, .inl (fun _ => 0)) := by rw [hc5, va_up_ne _ _ (by omega), q4_1]
  have qw5 : ce5 0 = .inr (2, [.ref (ad4 1), .ref (ad4 2), .null, .int 0, .int 0]) := by rw [hc5, va_up_self]
  have ec5 : ∀ j, j ≠ 0 → ce5 j = ce4 j := fun j h => by rw [hc5, va_up_ne _ _ h]
  clear hc5
  have xt5 : TZ cI cO ad4 ce5 := xt.cg (fun _ _ _ => rfl) (fun j q1 q2 => ec5 j (by omega))
  refine lv_aload_n hx hb dL_init_24 rfl (lv_at hl 0 rfl) ?_
  refine lv_sipush (v := nI 512) hx hb dL_init_25 (by decide +kernel) ?_
  refine ix_newI (n := 512) hx hb (hA9 _ ma_int) hK hP hD hS hA (by omega) (Nat.le_of_ble_eq_true rfl) (Nat.le_of_ble_eq_true rfl) dL_init_28 (fun q H hP hD hS => ?_)
  obtain ⟨ad6, hd6⟩ : ∃ z9, z9 = va_up ad4 33 q := ⟨_, rfl⟩
  obtain ⟨ce6, hc6⟩ : ∃ z9, z9 = va_up ce5 33 (.inl (cI, 512, .inl (fun _ => 0))) := ⟨_, rfl⟩
  rw [← hd6, ← hc6] at hP hD
  have eq6 : q = ad6 33 := by rw [hd6, va_up_self]
  have ed6 : ∀ j, j < 33 → ad4 j = ad6 j := fun j h => by rw [hd6, va_up_ne _ _ (by omega)]
  have ec6 : ∀ j, j < 33 → ce6 j = ce5 j := fun j h => by rw [hc6, va_up_ne _ _ (by omega)]
  have fa6 : ∀ j, j < 1 → ad6 j = ad j := fun j h => (ed6 j (by omega)).symm.trans (fa4 j h)
  have fc6 : ∀ j, j < 0 → ce6 j = ce j := fun j h => (ec6 j (by omega)).trans (fc5 j h)
  have q6_0 : ce6 0 = .inr (2, [.ref (ad6 1), .ref (ad6 2), .null, .int 0, .int 0]) := by rw [ec6 0 (by omega), qw5, ed6 1 (by omega), ed6 2 (by omega)]
  have q6_1 : ce6 1 = .inl (cI, 4000, .inl (fun _ => 0)) := by rw [ec6 1 (by omega), q5_1]
  have qn6 : ce6 33 = .inl (cI, 512, .inl (fun _ => 0)) := by rw [hc6, va_up_self]
  replace hl : lv_has ls 1 [(0, .ref (ad6 0))] := by rw [← ed6 0 (by omega)]; exact hl
  refine W.eq (g2 := F0 m 30 ls [.ref (ad6 33), .ref (ad6 0)]) (by rw [eq6, ed6 0 (by omega)]) ?_
  clear hd6 hc6
  have xt6 : TZ cI cO ad6 ce6 := xt5.cg (fun j q1 q2 => (ed6 j (by omega)).symm) (fun j q1 q2 => ec6 j (by omega))
  refine va_putF (D := D) (ci := 2) (v := .ref (ad6 33)) (ty := .array .int) (C := RL) (T := TL) (N := 5) hx hb hA9 inL tyL tyL_ok nmL hown hK hP hD hS 0 (wx_at (by omega) q6_0) rfl 2 (by decide) (hA9 _ mfL_20) (fun _ h9 => h9) rfl hin rfl (by decide +kernel) rfl rfl (Nat.le_of_ble_eq_true rfl) dL_init_30 (fun H locs hP hD hS => ?_)
  replace hP : va_P D CLS ((wx 34 ad6 ce6).set 0 (ad6 0, .inr (2, [.ref (ad6 1), .ref (ad6 2), .ref (ad6 33), .int 0, .int 0]))) H := hP
  replace hD : va_D A ((wx 34 ad6 ce6).set 0 (ad6 0, .inr (2, [.ref (ad6 1), .ref (ad6 2), .ref (ad6 33), .int 0, .int 0]))) := hD
  obtain ⟨ce7, hc7⟩ : ∃ z9, z9 = va_up ce6 0 (.inr (2, [.ref (ad6 1), .ref (ad6 2), .ref (ad6 33), .int 0, .int 0])) := ⟨_, rfl⟩
  rw [wx_set (by omega), ← hc7] at hP hD
  have fc7 : ∀ j, j < 0 → ce7 j = ce j := fun j h => (by rw [hc7, va_up_ne _ _ (by omega)] : ce7 j = ce6 j).trans (fc6 j h)
  have q7_1 : ce7 1 = .inl (cI, 4000, .inl (fun _ => 0)) := by rw [hc7, va_up_ne _ _ (by omega), q6_1]
  have q7_33 : ce7 33 = .inl (cI, 512, .inl (fun _ => 0)) := by rw [hc7, va_up_ne _ _ (by omega), qn6]
  have qw7 : ce7 0 = .inr (2, [.ref (ad6 1), .ref (ad6 2), .ref (ad6 33), .int 0, .int 0]) := by rw [hc7, va_up_self]
  have ec7 : ∀ j, j ≠ 0 → ce7 j = ce6 j := fun j h => by rw [hc7, va_up_ne _ _ h]
  clear hc7
  have xt7 : TZ cI cO ad6 ce7 := xt6.cg (fun _ _ _ => rfl) (fun j q1 q2 => ec7 j (by omega))
  refine lv_aload_n hx hb dL_init_33 rfl (lv_at hl 0 rfl) ?_
  refine lv_iconst (v := nI 0) hx hb dL_init_34 (by decide +kernel) ?_
  refine va_put (D := D) (ci := 2) (v := .int (nI 0)) (ty := .int) (C := RL) (T := TL) (N := 5) hx hb hA9 inL tyL tyL_ok nmL hown hK hP hD hS 0 (wx_at (by omega) qw7) rfl 3 (by decide) (hA9 _ mfL_23) (fun _ h9 => h9) rfl (by decide +kernel) rfl rfl (Nat.le_of_ble_eq_true rfl) dL_init_35 (fun H locs hP hD hS => ?_)
  replace hP : va_P D CLS ((wx 34 ad6 ce7).set 0 (ad6 0, .inr (2, [.ref (ad6 1), .ref (ad6 2), .ref (ad6 33), .int (nI 0), .int 0]))) H := hP
  replace hD : va_D A ((wx 34 ad6 ce7).set 0 (ad6 0, .inr (2, [.ref (ad6 1), .ref (ad6 2), .ref (ad6 33), .int (nI 0), .int 0]))) := hD
  obtain ⟨ce8, hc8⟩ : ∃ z9, z9 = va_up ce7 0 (.inr (2, [.ref (ad6 1), .ref (ad6 2), .ref (ad6 33), .int (nI 0), .int 0])) := ⟨_, rfl⟩
  rw [wx_set (by omega), ← hc8] at hP hD
  have fc8 : ∀ j, j < 0 → ce8 j = ce j := fun j h => (by rw [hc8, va_up_ne _ _ (by omega)] : ce8 j = ce7 j).trans (fc7 j h)
  have q8_1 : ce8 1 = .inl (cI, 4000, .inl (fun _ => 0)) := by rw [hc8, va_up_ne _ _ (by omega), q7_1]
  have q8_33 : ce8 33 = .inl (cI, 512, .inl (fun _ => 0)) := by rw [hc8, va_up_ne _ _ (by omega), q7_33]
  have qw8 : ce8 0 = .inr (2, [.ref (ad6 1), .ref (ad6 2), .ref (ad6 33), .int (nI 0), .int 0]) := by rw [hc8, va_up_self]
  have ec8 : ∀ j, j ≠ 0 → ce8 j = ce7 j := fun j h => by rw [hc8, va_up_ne _ _ h]
  clear hc8
  have xt8 : TZ cI cO ad6 ce8 := xt7.cg (fun _ _ _ => rfl) (fun j q1 q2 => ec8 j (by omega))
  refine lv_aload_n hx hb dL_init_38 rfl (lv_at hl 0 rfl) ?_
  refine lv_iconst (v := nI 0) hx hb dL_init_39 (by decide +kernel) ?_
  refine va_put (D := D) (ci := 2) (v := .int (nI 0)) (ty := .int) (C := RL) (T := TL) (N := 5) hx hb hA9 inL tyL tyL_ok nmL hown hK hP hD hS 0 (wx_at (by omega) qw8) rfl 4 (by decide) (hA9 _ mfL_27) (fun _ h9 => h9) rfl (by decide +kernel) rfl rfl (Nat.le_of_ble_eq_true rfl) dL_init_40 (fun H locs hP hD hS => ?_)
  replace hP : va_P D CLS ((wx 34 ad6 ce8).set 0 (ad6 0, .inr (2, [.ref (ad6 1), .ref (ad6 2), .ref (ad6 33), .int (nI 0), .int (nI 0)]))) H := hP
  replace hD : va_D A ((wx 34 ad6 ce8).set 0 (ad6 0, .inr (2, [.ref (ad6 1), .ref (ad6 2), .ref (ad6 33), .int (nI 0), .int (nI 0)]))) := hD
  obtain ⟨ce9, hc9⟩ : ∃ z9, z9 = va_up ce8 0 (.inr (2, [.ref (ad6 1), .ref (ad6 2), .ref (ad6 33), .int (nI 0), .int (nI 0)])) := ⟨_, rfl⟩
  rw [wx_set (by omega), ← hc9] at hP hD
  have fc9 : ∀ j, j < 0 → ce9 j = ce j := fun j h => (by rw [hc9, va_up_ne _ _ (by omega)] : ce9 j = ce8 j).trans (fc8 j h)
  have q9_1 : ce9 1 = .inl (cI, 4000, .inl (fun _ => 0)) := by rw [hc9, va_up_ne _ _ (by omega), q8_1]
  have q9_33 : ce9 33 = .inl (cI, 512, .inl (fun _ => 0)) := by rw [hc9, va_up_ne _ _ (by omega), q8_33]
  have qw9 : ce9 0 = .inr (2, [.ref (ad6 1), .ref (ad6 2), .ref (ad6 33), .int (nI 0), .int (nI 0)]) := by rw [hc9, va_up_self]
  have ec9 : ∀ j, j ≠ 0 → ce9 j = ce8 j := fun j h => by rw [hc9, va_up_ne _ _ h]
  clear hc9
  have xt9 : TZ cI cO ad6 ce9 := xt8.cg (fun _ _ _ => rfl) (fun j q1 q2 => ec9 j (by omega))
  exact W.vret hx hb hr (fun t ht hW => ⟨⟨(ad6, ce9), rfl, ⟨fa6 0 (by omega), qw9, q9_1, xt9, q9_33⟩, by rw [ht]; exact hP, va_K.moved hW.alike hK, hD⟩, hS.F ht⟩) hS.2.2 dL_init_43

set_option maxHeartbeats 4000000 in
set_option maxRecDepth 100000 in
theorem c_M_init (l : Launch) (D : va_G) (cI cO cJ : ClassId)  (ad : Nat → Nat) (ce : Nat → va_E) (sz : Nat) (h0 : ce 34 = .inr (3, [.int 0, .null, .null, .null, .null, .null, .int 0, .int 0, .int 0])) : Met l yM_init (.code yM_init bM_init 1 none :: WA) ({ frames := 1, cells := 5, slots := 9536, locals := 40 }) (PM D (TY cI cO cJ) 35 ad ce sz [.ref (ad 34)]) (va_Qv (fun u : (Nat → Nat) × (Nat → va_E) => (∀ j, j < 35 → u.1 j = ad j) ∧ (∀ j, j < 34 → u.2 j = ce j) ∧ u.2 34 = .inr (3, [.int (nI 0), .ref (u.1 35), .ref (u.1 36), .ref (u.1 37), .ref (u.1 38), .ref (u.1 39), .int (nI 0), .int (nI 0), .int (nI 0)]) ∧ u.2 35 = .inl (cI, 4000, .inl (fun _ => 0)) ∧ u.2 36 = .inl (cI, 4000, .inl (fun _ => 0)) ∧ u.2 37 = .inl (cI, 512, .inl (fun _ => 0)) ∧ u.2 38 = .inl (cI, 512, .inl (fun _ => 0)) ∧ u.2 39 = .inl (cI, 512, .inl (fun _ => 0))) (BG D (TY cI cO cJ) 40 (AW 35 ad sz)) (AW 35 ad sz)) 5 9536 (AW 35 ad sz) := by
  refine Met.ofW (cc := bM_init) (maxL := 1) (ret := none) (by decide) rfl ?_
  intro p e s m args below meth c s₁ B hml hv
  obtain ⟨rfl, hsz, hP, hK, hD0⟩ := hv
  have hx := B.exec
  have hb := B.bytes
  have hr := B.returns
  have hA9 : ∀ w ∈ WA, w.before _ s = true := fun w h => atoms_spec (ws := .code yM_init bM_init 1 none :: WA) B.pre w (List.mem_cons_of_mem _ h)
  have hown : s.vm.findClass RM = some m.cls := findClass_of_methodNamed B.named
  have hlocks := B.notSynchronized
  have hin : meth.name = "<init>" := (name_of_methodNamed B.named B.method).1
  subst hsz
  have hD := aw_D (sz := s.heap.size) hD0
  generalize hAe : AW 35 ad s.heap.size = A at hD ⊢
  have hA : ∀ q, s.heap.size ≤ q → A q := fun q h => by rw [← hAe]; exact Or.inr h
  clear hAe hD0
  have hl := lv_entry ([.ref (ad 34)]) (n := 1) (Nat.le_of_ble_eq_true rfl)
  rw [lg_entry_eq]
  generalize (lg_sl ([.ref (ad 34)]) ++ List.replicate (1 - (lg_sl ([.ref (ad 34)])).length) Slot.unset).toArray = ls at hl ⊢
  have hl : lv_has ls 1 [(0, .ref (ad 34))] := hl
  refine st0 (A := A) (fun H locs hS hH => ?_)
  rw [← hH] at hP
  clear hH
  refine lv_aload_n hx hb dM_init_0 rfl (lv_at hl 0 rfl) ?_
  refine W.objInit hx hb hown (hA9 _ mlM_1) (hA9 _ miobjectInit) (hA9 _ mkobj) rfl (by rw [hml]; exact hl.1) rfl dM_init_1 (Nat.le_of_ble_eq_true rfl) (Nat.le_of_ble_eq_true rfl) ?_
  refine W.eq (g2 := F0 m 4 ls []) rfl ?_
  refine lv_aload_n hx hb dM_init_4 rfl (lv_at hl 0 rfl) ?_
  refine lv_iconst (v := nI 0) hx hb dM_init_5 (by decide +kernel) ?_
  refine va_put (D := D) (ci := 3) (v := .int (nI 0)) (ty := .int) (C := RM) (T := TM) (N := 9) hx hb hA9 inM tyM tyM_ok nmM hown hK hP hD hS 34 (wx_at (by omega) h0) rfl 0 (by decide) (hA9 _ mfM_7) (fun _ h9 => h9) rfl (by decide +kernel) rfl rfl (Nat.le_of_ble_eq_true rfl) dM_init_6 (fun H locs hP hD hS => ?_)
  replace hP : va_P D CLS ((wx 35 ad ce).set 34 (ad 34, .inr (3, [.int (nI 0), .null, .null, .null, .null, .null, .int 0, .int 0, .int 0]))) H := hP
  replace hD : va_D A ((wx 35 ad ce).set 34 (ad 34, .inr (3, [.int (nI 0), .null, .null, .null, .null, .null, .int 0, .int 0, .int 0]))) := hD
  obtain ⟨ce1, hc1⟩ : ∃ z9, z9 = va_up ce 34 (.inr (3, [.int (nI 0), .null, .null, .null, .null, .null, .int 0, .int 0, .int 0])) := ⟨_, rfl⟩
  rw [wx_set (by omega), ← hc1] at hP hD
  have fc1 : ∀ j, j < 34 → ce1 j = ce j := fun j h => (by rw [hc1, va_up_ne _ _ (by omega)] : ce1 j = ce j).trans ((fun _ _ => rfl) j h)
  have qw1 : ce1 34 = .inr (3, [.int (nI 0), .null, .null, .null, .null, .null, .int 0, .int 0, .int 0]) := by rw [hc1, va_up_self]
  have ec1 : ∀ j, j ≠ 34 → ce1 j = ce j := fun j h => by rw [hc1, va_up_ne _ _ h]
  clear hc1
  refine lv_aload_n hx hb dM_init_9 rfl (lv_at hl 0 rfl) ?_
  refine lv_sipush (v := nI 4000) hx hb dM_init_10 (by decide +kernel) ?_
  refine ix_newI (n := 4000) hx hb (hA9 _ ma_int) hK hP hD hS hA (by omega) (Nat.le_of_ble_eq_true rfl) (Nat.le_of_ble_eq_true rfl) dM_init_13 (fun q H hP hD hS => ?_)
  obtain ⟨ad2, hd2⟩ : ∃ z9, z9 = va_up ad 35 q := ⟨_, rfl⟩
  obtain ⟨ce2, hc2⟩ : ∃ z9, z9 = va_up ce1 35 (.inl (cI, 4000, .inl (fun _ => 0))) := ⟨_, rfl⟩
  rw [← hd2, ← hc2] at hP hD
  have eq2 : q = ad2 35 := by rw [hd2, va_up_self]
  have ed2 : ∀ j, j < 35 → ad j = ad2 j := fun j h => by rw [hd2, va_up_ne _ _ (by omega)]
  have ec2 : ∀ j, j < 35 → ce2 j = ce1 j := fun j h => by rw [hc2, va_up_ne _ _ (by omega)]
  have fa2 : ∀ j, j < 35 → ad2 j = ad j := fun j h => (ed2 j (by omega)).symm.trans ((fun _ _ => rfl) j h)
  have fc2 : ∀ j, j < 34 → ce2 j = ce j := fun j h => (ec2 j (by omega)).trans (fc1 j h)
  have q2_34 : ce2 34 = .inr (3, [.int (nI 0), .null, .null, .null, .null, .null, .int 0, .int 0, .int 0]) := by rw [ec2 34 (by omega), qw1]
  have qn2 : ce2 35 = .inl (cI, 4000, .inl (fun _ => 0)) := by rw [hc2, va_up_self]
  replace hl : lv_has ls 1 [(0, .ref (ad2 34))] := by rw [← ed2 34 (by omega)]; exact hl
  refine W.eq (g2 := F0 m 15 ls [.ref (ad2 35), .ref (ad2 34)]) (by rw [eq2, ed2 34 (by omega)]) ?_
  clear hd2 hc2
  refine va_putF (D := D) (ci := 3) (v := .ref (ad2 35)) (ty := .array .int) (C := RM) (T := TM) (N := 9) hx hb hA9 inM tyM tyM_ok nmM hown hK hP hD hS 34 (wx_at (by omega) q2_34) rfl 1 (by decide) (hA9 _ mfM_13) (fun _ h9 => h9) rfl hin rfl (by decide +kernel) rfl rfl (Nat.le_of_ble_eq_true rfl) dM_init_15 (fun H locs hP hD hS => ?_)
  replace hP : va_P D CLS ((wx 36 ad2 ce2).set 34 (ad2 34, .inr (3, [.int (nI 0), .ref (ad2 35), .null, .null, .null, .null, .int 0, .int 0, .int 0]))) H := hP
  replace hD : va_D A ((wx 36 ad2 ce2).set 34 (ad2 34, .inr (3, [.int (nI 0), .ref (ad2 35), .null, .null, .null, .null, .int 0, .int 0, .int 0]))) := hD
  obtain ⟨ce3, hc3⟩ : ∃ z9, z9 = va_up ce2 34 (.inr (3, [.int (nI 0), .ref (ad2 35), .null, .null, .null, .null, .int 0, .int 0, .int 0])) := ⟨_, rfl⟩
  rw [wx_set (by omega), ← hc3] at hP hD
  have fc3 : ∀ j, j < 34 → ce3 j = ce j := fun j h => (by rw [hc3, va_up_ne _ _ (by omega)] : ce3 j = ce2 j).trans (fc2 j h)
  have q3_35 : ce3 35 = .inl (cI, 4000, .inl (fun _ => 0)) := by rw [hc3, va_up_ne _ _ (by omega), qn2]
  have qw3 : ce3 34 = .inr (3, [.int (nI 0), .ref (ad2 35), .null, .null, .null, .null, .int 0, .int 0, .int 0]) := by rw [hc3, va_up_self]
  have ec3 : ∀ j, j ≠ 34 → ce3 j = ce2 j := fun j h => by rw [hc3, va_up_ne _ _ h]
  clear hc3
  refine lv_aload_n hx hb dM_init_18 rfl (lv_at hl 0 rfl) ?_
  refine lv_sipush (v := nI 4000) hx hb dM_init_19 (by decide +kernel) ?_
  refine ix_newI (n := 4000) hx hb (hA9 _ ma_int) hK hP hD hS hA (by omega) (Nat.le_of_ble_eq_true rfl) (Nat.le_of_ble_eq_true rfl) dM_init_22 (fun q H hP hD hS => ?_)
  obtain ⟨ad4, hd4⟩ : ∃ z9, z9 = va_up ad2 36 q := ⟨_, rfl⟩
  obtain ⟨ce4, hc4⟩ : ∃ z9, z9 = va_up ce3 36 (.inl (cI, 4000, .inl (fun _ => 0))) := ⟨_, rfl⟩
  rw [← hd4, ← hc4] at hP hD
  have eq4 : q = ad4 36 := by rw [hd4, va_up_self]
  have ed4 : ∀ j, j < 36 → ad2 j = ad4 j := fun j h => by rw [hd4, va_up_ne _ _ (by omega)]
  have ec4 : ∀ j, j < 36 → ce4 j = ce3 j := fun j h => by rw [hc4, va_up_ne _ _ (by omega)]
  have fa4 : ∀ j, j < 35 → ad4 j = ad j := fun j h => (ed4 j (by omega)).symm.trans (fa2 j h)
  have fc4 : ∀ j, j < 34 → ce4 j = ce j := fun j h => (ec4 j (by omega)).trans (fc3 j h)
  have q4_34 : ce4 34 = .inr (3, [.int (nI 0), .ref (ad4 35), .null, .null, .null, .null, .int 0, .int 0, .int 0]) := by rw [ec4 34 (by omega), qw3, ed4 35 (by omega)]
  have q4_35 : ce4 35 = .inl (cI, 4000, .inl (fun _ => 0)) := by rw [ec4 35 (by omega), q3_35]
  have qn4 : ce4 36 = .inl (cI, 4000, .inl (fun _ => 0)) := by rw [hc4, va_up_self]
  replace hl : lv_has ls 1 [(0, .ref (ad4 34))] := by rw [← ed4 34 (by omega)]; exact hl
  refine W.eq (g2 := F0 m 24 ls [.ref (ad4 36), .ref (ad4 34)]) (by rw [eq4, ed4 34 (by omega)]) ?_
  clear hd4 hc4
  refine va_putF (D := D) (ci := 3) (v := .ref (ad4 36)) (ty := .array .int) (C := RM) (T := TM) (N := 9) hx hb hA9 inM tyM tyM_ok nmM hown hK hP hD hS 34 (wx_at (by omega) q4_34) rfl 2 (by decide) (hA9 _ mfM_17) (fun _ h9 => h9) rfl hin rfl (by decide +kernel) rfl rfl (Nat.le_of_ble_eq_true rfl) dM_init_24 (fun H locs hP hD hS => ?_)
  replace hP : va_P D CLS ((wx 37 ad4 ce4).set 34 (ad4 34, .inr (3, [.int (nI 0), .ref (ad4 35), .ref (ad4 36), .null, .null, .null, .int 0, .int 0, .int 0]))) H := hP
  replace hD : va_D A ((wx 37 ad4 ce4).set 34 (ad4 34, .inr (3, [.int (nI 0), .ref (ad4 35), .ref (ad4 36), .null, .null, .null, .int 0, .int 0, .int 0]))) := hD
  obtain ⟨ce5, hc5⟩ : ∃ z9, z9 = va_up ce4 34 (.inr (3, [.int (nI 0), .ref (ad4 35), .ref (ad4 36), .null, .null, .null, .int 0, .int 0, .int 0])) := ⟨_, rfl⟩
  rw [wx_set (by omega), ← hc5] at hP hD
  have fc5 : ∀ j, j < 34 → ce5 j = ce j := fun j h => (by rw [hc5, va_up_ne _ _ (by omega)] : ce5 j = ce4 j).trans (fc4 j h)
  have q5_35 : ce5 35 = .inl (cI, 4000, .inl (fun _ => 0)) := by rw [hc5, va_up_ne _ _ (by omega), q4_35]
  have q5_36 : ce5 36 = .inl (cI, 4000, .inl (fun _ => 0)) := by rw [hc5, va_up_ne _ _ (by omega), qn4]
  have qw5 : ce5 34 = .inr (3, [.int (nI 0), .ref (ad4 35), .ref (ad4 36), .null, .null, .null, .int 0, .int 0, .int 0]) := by rw [hc5, va_up_self]
  have ec5 : ∀ j, j ≠ 34 → ce5 j = ce4 j := fun j h => by rw [hc5, va_up_ne _ _ h]
  clear hc5
  refine lv_aload_n hx hb dM_init_27 rfl (lv_at hl 0 rfl) ?_
  refine lv_sipush (v := nI 512) hx hb dM_init_28 (by decide +kernel) ?_
  refine ix_newI (n := 512) hx hb (hA9 _ ma_int) hK hP hD hS hA (by omega) (Nat.le_of_ble_eq_true rfl) (Nat.le_of_ble_eq_true rfl) dM_init_31 (fun q H hP hD hS => ?_)
  obtain ⟨ad6, hd6⟩ : ∃ z9, z9 = va_up ad4 37 q := ⟨_, rfl⟩
  obtain ⟨ce6, hc6⟩ : ∃ z9, z9 = va_up ce5 37 (.inl (cI, 512, .inl (fun _ => 0))) := ⟨_, rfl⟩
  rw [← hd6, ← hc6] at hP hD
  have eq6 : q = ad6 37 := by rw [hd6, va_up_self]
  have ed6 : ∀ j, j < 37 → ad4 j = ad6 j := fun j h => by rw [hd6, va_up_ne _ _ (by omega)]
  have ec6 : ∀ j, j < 37 → ce6 j = ce5 j := fun j h => by rw [hc6, va_up_ne _ _ (by omega)]
  have fa6 : ∀ j, j < 35 → ad6 j = ad j := fun j h => (ed6 j (by omega)).symm.trans (fa4 j h)
  have fc6 : ∀ j, j < 34 → ce6 j = ce j := fun j h => (ec6 j (by omega)).trans (fc5 j h)
  have q6_34 : ce6 34 = .inr (3, [.int (nI 0), .ref (ad6 35), .ref (ad6 36), .null, .null, .null, .int 0, .int 0, .int 0]) := by rw [ec6 34 (by omega), qw5, ed6 35 (by omega), ed6 36 (by omega)]
  have q6_35 : ce6 35 = .inl (cI, 4000, .inl (fun _ => 0)) := by rw [ec6 35 (by omega), q5_35]
  have q6_36 : ce6 36 = .inl (cI, 4000, .inl (fun _ => 0)) := by rw [ec6 36 (by omega), q5_36]
  have qn6 : ce6 37 = .inl (cI, 512, .inl (fun _ => 0)) := by rw [hc6, va_up_self]
  replace hl : lv_has ls 1 [(0, .ref (ad6 34))] := by rw [← ed6 34 (by omega)]; exact hl
  refine W.eq (g2 := F0 m 33 ls [.ref (ad6 37), .ref (ad6 34)]) (by rw [eq6, ed6 34 (by omega)]) ?_
  clear hd6 hc6
  refine va_putF (D := D) (ci := 3) (v := .ref (ad6 37)) (ty := .array .int) (C := RM) (T := TM) (N := 9) hx hb hA9 inM tyM tyM_ok nmM hown hK hP hD hS 34 (wx_at (by omega) q6_34) rfl 3 (by decide) (hA9 _ mfM_20) (fun _ h9 => h9) rfl hin rfl (by decide +kernel) rfl rfl (Nat.le_of_ble_eq_true rfl) dM_init_33 (fun H locs hP hD hS => ?_)
  replace hP : va_P D CLS ((wx 38 ad6 ce6).set 34 (ad6 34, .inr (3, [.int (nI 0), .ref (ad6 35), .ref (ad6 36), .ref (ad6 37), .null, .null, .int 0, .int 0, .int 0]))) H := hP
  replace hD : va_D A ((wx 38 ad6 ce6).set 34 (ad6 34, .inr (3, [.int (nI 0), .ref (ad6 35), .ref (ad6 36), .ref (ad6 37), .null, .null, .int 0, .int 0, .int 0]))) := hD
  obtain ⟨ce7, hc7⟩ : ∃ z9, z9 = va_up ce6 34 (.inr (3, [.int (nI 0), .ref (ad6 35), .ref (ad6 36), .ref (ad6 37), .null, .null, .int 0, .int 0, .int 0])) := ⟨_, rfl⟩
  rw [wx_set (by omega), ← hc7] at hP hD
  have fc7 : ∀ j, j < 34 → ce7 j = ce j := fun j h => (by rw [hc7, va_up_ne _ _ (by omega)] : ce7 j = ce6 j).trans (fc6 j h)
  have q7_35 : ce7 35 = .inl (cI, 4000, .inl (fun _ => 0)) := by rw [hc7, va_up_ne _ _ (by omega), q6_35]
  have q7_36 : ce7 36 = .inl (cI, 4000, .inl (fun _ => 0)) := by rw [hc7, va_up_ne _ _ (by omega), q6_36]
  have q7_37 : ce7 37 = .inl (cI, 512, .inl (fun _ => 0)) := by rw [hc7, va_up_ne _ _ (by omega), qn6]
  have qw7 : ce7 34 = .inr (3, [.int (nI 0), .ref (ad6 35), .ref (ad6 36), .ref (ad6 37), .null, .null, .int 0, .int 0, .int 0]) := by rw [hc7, va_up_self]
  have ec7 : ∀ j, j ≠ 34 → ce7 j = ce6 j := fun j h => by rw [hc7, va_up_ne _ _ h]
  clear hc7
  refine lv_aload_n hx hb dM_init_36 rfl (lv_at hl 0 rfl) ?_
  refine lv_sipush (v := nI 512) hx hb dM_init_37 (by decide +kernel) ?_
  refine ix_newI (n := 512) hx hb (hA9 _ ma_int) hK hP hD hS hA (by omega) (Nat.le_of_ble_eq_true rfl) (Nat.le_of_ble_eq_true rfl) dM_init_40 (fun q H hP hD hS => ?_)
  obtain ⟨ad8, hd8⟩ : ∃ z9, z9 = va_up ad6 38 q := ⟨_, rfl⟩
  obtain ⟨ce8, hc8⟩ : ∃ z9, z9 = va_up ce7 38 (.inl (cI, 512, .inl (fun _ => 0))) := ⟨_, rfl⟩
  rw [← hd8, ← hc8] at hP hD
  have eq8 : q = ad8 38 := by rw [hd8, va_up_self]
  have ed8 : ∀ j, j < 38 → ad6 j = ad8 j := fun j h => by rw [hd8, va_up_ne _ _ (by omega)]
  have ec8 : ∀ j, j < 38 → ce8 j = ce7 j := fun j h => by rw [hc8, va_up_ne _ _ (by omega)]
  have fa8 : ∀ j, j < 35 → ad8 j = ad j := fun j h => (ed8 j (by omega)).symm.trans (fa6 j h)
  have fc8 : ∀ j, j < 34 → ce8 j = ce j := fun j h => (ec8 j (by omega)).trans (fc7 j h)
  have q8_34 : ce8 34 = .inr (3, [.int (nI 0), .ref (ad8 35), .ref (ad8 36), .ref (ad8 37), .null, .null, .int 0, .int 0, .int 0]) := by rw [ec8 34 (by omega), qw7, ed8 35 (by omega), ed8 36 (by omega), ed8 37 (by omega)]
  have q8_35 : ce8 35 = .inl (cI, 4000, .inl (fun _ => 0)) := by rw [ec8 35 (by omega), q7_35]
  have q8_36 : ce8 36 = .inl (cI, 4000, .inl (fun _ => 0)) := by rw [ec8 36 (by omega), q7_36]
  have q8_37 : ce8 37 = .inl (cI, 512, .inl (fun _ => 0)) := by rw [ec8 37 (by omega), q7_37]
  have qn8 : ce8 38 = .inl (cI, 512, .inl (fun _ => 0)) := by rw [hc8, va_up_self]
  replace hl : lv_has ls 1 [(0, .ref (ad8 34))] := by rw [← ed8 34 (by omega)]; exact hl
  refine W.eq (g2 := F0 m 42 ls [.ref (ad8 38), .ref (ad8 34)]) (by rw [eq8, ed8 34 (by omega)]) ?_
  clear hd8 hc8
  refine va_putF (D := D) (ci := 3) (v := .ref (ad8 38)) (ty := .array .int) (C := RM) (T := TM) (N := 9) hx hb hA9 inM tyM tyM_ok nmM hown hK hP hD hS 34 (wx_at (by omega) q8_34) rfl 4 (by decide) (hA9 _ mfM_23) (fun _ h9 => h9) rfl hin rfl (by decide +kernel) rfl rfl (Nat.le_of_ble_eq_true rfl) dM_init_42 (fun H locs hP hD hS => ?_)
  replace hP : va_P D CLS ((wx 39 ad8 ce8).set 34 (ad8 34, .inr (3, [.int (nI 0), .ref (ad8 35), .ref (ad8 36), .ref (ad8 37), .ref (ad8 38), .null, .int 0, .int 0, .int 0]))) H := hP
  replace hD : va_D A ((wx 39 ad8 ce8).set 34 (ad8 34, .inr (3, [.int (nI 0), .ref (ad8 35), .ref (ad8 36), .ref (ad8 37), .ref (ad8 38), .null, .int 0, .int 0, .int 0]))) := hD
  obtain ⟨ce9, hc9⟩ : ∃ z9, z9 = va_up ce8 34 (.inr (3, [.int (nI 0), .ref (ad8 35), .ref (ad8 36), .ref (ad8 37), .ref (ad8 38), .null, .int 0, .int 0, .int 0])) := ⟨_, rfl⟩
  rw [wx_set (by omega), ← hc9] at hP hD
  have fc9 : ∀ j, j < 34 → ce9 j = ce j := fun j h => (by rw [hc9, va_up_ne _ _ (by omega)] : ce9 j = ce8 j).trans (fc8 j h)
  have q9_35 : ce9 35 = .inl (cI, 4000, .inl (fun _ => 0)) := by rw [hc9, va_up_ne _ _ (by omega), q8_35]
  have q9_36 : ce9 36 = .inl (cI, 4000, .inl (fun _ => 0)) := by rw [hc9, va_up_ne _ _ (by omega), q8_36]
  have q9_37 : ce9 37 = .inl (cI, 512, .inl (fun _ => 0)) := by rw [hc9, va_up_ne _ _ (by omega), q8_37]
  have q9_38 : ce9 38 = .inl (cI, 512, .inl (fun _ => 0)) := by rw [hc9, va_up_ne _ _ (by omega), qn8]
  have qw9 : ce9 34 = .inr (3, [.int (nI 0), .ref (ad8 35), .ref (ad8 36), .ref (ad8 37), .ref (ad8 38), .null, .int 0, .int 0, .int 0]) := by rw [hc9, va_up_self]
  have ec9 : ∀ j, j ≠ 34 → ce9 j = ce8 j := fun j h => by rw [hc9, va_up_ne _ _ h]
  clear hc9
  refine lv_aload_n hx hb dM_init_45 rfl (lv_at hl 0 rfl) ?_
  refine lv_sipush (v := nI 512) hx hb dM_init_46 (by decide +kernel) ?_
  refine ix_newI (n := 512) hx hb (hA9 _ ma_int) hK hP hD hS hA (by omega) (Nat.le_of_ble_eq_true rfl) (Nat.le_of_ble_eq_true rfl) dM_init_49 (fun q H hP hD hS => ?_)
  obtain ⟨ad10, hd10⟩ : ∃ z9, z9 = va_up ad8 39 q := ⟨_, rfl⟩
  obtain ⟨ce10, hc10⟩ : ∃ z9, z9 = va_up ce9 39 (.inl (cI, 512, .inl (fun _ => 0))) := ⟨_, rfl⟩
  rw [← hd10, ← hc10] at hP hD
  have eq10 : q = ad10 39 := by rw [hd10, va_up_self]
  have ed10 : ∀ j, j < 39 → ad8 j = ad10 j := fun j h => by rw [hd10, va_up_ne _ _ (by omega)]
  have ec10 : ∀ j, j < 39 → ce10 j = ce9 j := fun j h => by rw [hc10, va_up_ne _ _ (by omega)]
  have fa10 : ∀ j, j < 35 → ad10 j = ad j := fun j h => (ed10 j (by omega)).symm.trans (fa8 j h)
  have fc10 : ∀ j, j < 34 → ce10 j = ce j := fun j h => (ec10 j (by omega)).trans (fc9 j h)
  have q10_34 : ce10 34 = .inr (3, [.int (nI 0), .ref (ad10 35), .ref (ad10 36), .ref (ad10 37), .ref (ad10 38), .null, .int 0, .int 0, .int 0]) := by rw [ec10 34 (by omega), qw9, ed10 35 (by omega), ed10 36 (by omega), ed10 37 (by omega), ed10 38 (by omega)]
  have q10_35 : ce10 35 = .inl (cI, 4000, .inl (fun _ => 0)) := by rw [ec10 35 (by omega), q9_35]
  have q10_36 : ce10 36 = .inl (cI, 4000, .inl (fun _ => 0)) := by rw [ec10 36 (by omega), q9_36]
  have q10_37 : ce10 37 = .inl (cI, 512, .inl (fun _ => 0)) := by rw [ec10 37 (by omega), q9_37]
  have q10_38 : ce10 38 = .inl (cI, 512, .inl (fun _ => 0)) := by rw [ec10 38 (by omega), q9_38]
  have qn10 : ce10 39 = .inl (cI, 512, .inl (fun _ => 0)) := by rw [hc10, va_up_self]
  replace hl : lv_has ls 1 [(0, .ref (ad10 34))] := by rw [← ed10 34 (by omega)]; exact hl
  refine W.eq (g2 := F0 m 51 ls [.ref (ad10 39), .ref (ad10 34)]) (by rw [eq10, ed10 34 (by omega)]) ?_
  clear hd10 hc10
  refine va_putF (D := D) (ci := 3) (v := .ref (ad10 39)) (ty := .array .int) (C := RM) (T := TM) (N := 9) hx hb hA9 inM tyM tyM_ok nmM hown hK hP hD hS 34 (wx_at (by omega) q10_34) rfl 5 (by decide) (hA9 _ mfM_26) (fun _ h9 => h9) rfl hin rfl (by decide +kernel) rfl rfl (Nat.le_of_ble_eq_true rfl) dM_init_51 (fun H locs hP hD hS => ?_)
  replace hP : va_P D CLS ((wx 40 ad10 ce10).set 34 (ad10 34, .inr (3, [.int (nI 0), .ref (ad10 35), .ref (ad10 36), .ref (ad10 37), .ref (ad10 38), .ref (ad10 39), .int 0, .int 0, .int 0]))) H := hP
  replace hD : va_D A ((wx 40 ad10 ce10).set 34 (ad10 34, .inr (3, [.int (nI 0), .ref (ad10 35), .ref (ad10 36), .ref (ad10 37), .ref (ad10 38), .ref (ad10 39), .int 0, .int 0, .int 0]))) := hD
  obtain ⟨ce11, hc11⟩ : ∃ z9, z9 = va_up ce10 34 (.inr (3, [.int (nI 0), .ref (ad10 35), .ref (ad10 36), .ref (ad10 37), .ref (ad10 38), .ref (ad10 39), .int 0, .int 0, .int 0])) := ⟨_, rfl⟩
  rw [wx_set (by omega), ← hc11] at hP hD
  have fc11 : ∀ j, j < 34 → ce11 j = ce j := fun j h => (by rw [hc11, va_up_ne _ _ (by omega)] : ce11 j = ce10 j).trans (fc10 j h)
  have q11_35 : ce11 35 = .inl (cI, 4000, .inl (fun _ => 0)) := by rw [hc11, va_up_ne _ _ (by omega), q10_35]
  have q11_36 : ce11 36 = .inl (cI, 4000, .inl (fun _ => 0)) := by rw [hc11, va_up_ne _ _ (by omega), q10_36]
  have q11_37 : ce11 37 = .inl (cI, 512, .inl (fun _ => 0)) := by rw [hc11, va_up_ne _ _ (by omega), q10_37]
  have q11_38 : ce11 38 = .inl (cI, 512, .inl (fun _ => 0)) := by rw [hc11, va_up_ne _ _ (by omega), q10_38]
  have q11_39 : ce11 39 = .inl (cI, 512, .inl (fun _ => 0)) := by rw [hc11, va_up_ne _ _ (by omega), qn10]
  have qw11 : ce11 34 = .inr (3, [.int (nI 0), .ref (ad10 35), .ref (ad10 36), .ref (ad10 37), .ref (ad10 38), .ref (ad10 39), .int 0, .int 0, .int 0]) := by rw [hc11, va_up_self]
  have ec11 : ∀ j, j ≠ 34 → ce11 j = ce10 j := fun j h => by rw [hc11, va_up_ne _ _ h]
  clear hc11
  refine lv_aload_n hx hb dM_init_54 rfl (lv_at hl 0 rfl) ?_
  refine lv_iconst (v := nI 0) hx hb dM_init_55 (by decide +kernel) ?_
  refine va_put (D := D) (ci := 3) (v := .int (nI 0)) (ty := .int) (C := RM) (T := TM) (N := 9) hx hb hA9 inM tyM tyM_ok nmM hown hK hP hD hS 34 (wx_at (by omega) qw11) rfl 6 (by decide) (hA9 _ mfM_29) (fun _ h9 => h9) rfl (by decide +kernel) rfl rfl (Nat.le_of_ble_eq_true rfl) dM_init_56 (fun H locs hP hD hS => ?_)
  replace hP : va_P D CLS ((wx 40 ad10 ce11).set 34 (ad10 34, .inr (3, [.int (nI 0), .ref (ad10 35), .ref (ad10 36), .ref (ad10 37), .ref (ad10 38), .ref (ad10 39), .int (nI 0), .int 0, .int 0]))) H := hP
  replace hD : va_D A ((wx 40 ad10 ce11).set 34 (ad10 34, .inr (3, [.int (nI 0), .ref (ad10 35), .ref (ad10 36), .ref (ad10 37), .ref (ad10 38), .ref (ad10 39), .int (nI 0), .int 0, .int 0]))) := hD
  obtain ⟨ce12, hc12⟩ : ∃ z9, z9 = va_up ce11 34 (.inr (3, [.int (nI 0), .ref (ad10 35), .ref (ad10 36), .ref (ad10 37), .ref (ad10 38), .ref (ad10 39), .int (nI 0), .int 0, .int 0])) := ⟨_, rfl⟩
  rw [wx_set (by omega), ← hc12] at hP hD
  have fc12 : ∀ j, j < 34 → ce12 j = ce j := fun j h => (by rw [hc12, va_up_ne _ _ (by omega)] : ce12 j = ce11 j).trans (fc11 j h)
  have q12_35 : ce12 35 = .inl (cI, 4000, .inl (fun _ => 0)) := by rw [hc12, va_up_ne _ _ (by omega), q11_35]
  have q12_36 : ce12 36 = .inl (cI, 4000, .inl (fun _ => 0)) := by rw [hc12, va_up_ne _ _ (by omega), q11_36]
  have q12_37 : ce12 37 = .inl (cI, 512, .inl (fun _ => 0)) := by rw [hc12, va_up_ne _ _ (by omega), q11_37]
  have q12_38 : ce12 38 = .inl (cI, 512, .inl (fun _ => 0)) := by rw [hc12, va_up_ne _ _ (by omega), q11_38]
  have q12_39 : ce12 39 = .inl (cI, 512, .inl (fun _ => 0)) := by rw [hc12, va_up_ne _ _ (by omega), q11_39]
  have qw12 : ce12 34 = .inr (3, [.int (nI 0), .ref (ad10 35), .ref (ad10 36), .ref (ad10 37), .ref (ad10 38), .ref (ad10 39), .int (nI 0), .int 0, .int 0]) := by rw [hc12, va_up_self]
  have ec12 : ∀ j, j ≠ 34 → ce12 j = ce11 j := fun j h => by rw [hc12, va_up_ne _ _ h]
  clear hc12
  refine lv_aload_n hx hb dM_init_59 rfl (lv_at hl 0 rfl) ?_
  refine lv_iconst (v := nI 0) hx hb dM_init_60 (by decide +kernel) ?_
  refine va_put (D := D) (ci := 3) (v := .int (nI 0)) (ty := .int) (C := RM) (T := TM) (N := 9) hx hb hA9 inM tyM tyM_ok nmM hown hK hP hD hS 34 (wx_at (by omega) qw12) rfl 7 (by decide) (hA9 _ mfM_32) (fun _ h9 => h9) rfl (by decide +kernel) rfl rfl (Nat.le_of_ble_eq_true rfl) dM_init_61 (fun H locs hP hD hS => ?_)
  replace hP : va_P D CLS ((wx 40 ad10 ce12).set 34 (ad10 34, .inr (3, [.int (nI 0), .ref (ad10 35), .ref (ad10 36), .ref (ad10 37), .ref (ad10 38), .ref (ad10 39), .int (nI 0), .int (nI 0), .int 0]))) H := hP
  replace hD : va_D A ((wx 40 ad10 ce12).set 34 (ad10 34, .inr (3, [.int (nI 0), .ref (ad10 35), .ref (ad10 36), .ref (ad10 37), .ref (ad10 38), .ref (ad10 39), .int (nI 0), .int (nI 0), .int 0]))) := hD
  obtain ⟨ce13, hc13⟩ : ∃ z9, z9 = va_up ce12 34 (.inr (3, [.int (nI 0), .ref (ad10 35), .ref (ad10 36), .ref (ad10 37), .ref (ad10 38), .ref (ad10 39), .int (nI 0), .int (nI 0), .int 0])) := ⟨_, rfl⟩
  rw [wx_set (by omega), ← hc13] at hP hD
  have fc13 : ∀ j, j < 34 → ce13 j = ce j := fun j h => (by rw [hc13, va_up_ne _ _ (by omega)] : ce13 j = ce12 j).trans (fc12 j h)
  have q13_35 : ce13 35 = .inl (cI, 4000, .inl (fun _ => 0)) := by rw [hc13, va_up_ne _ _ (by omega), q12_35]
  have q13_36 : ce13 36 = .inl (cI, 4000, .inl (fun _ => 0)) := by rw [hc13, va_up_ne _ _ (by omega), q12_36]
  have q13_37 : ce13 37 = .inl (cI, 512, .inl (fun _ => 0)) := by rw [hc13, va_up_ne _ _ (by omega), q12_37]
  have q13_38 : ce13 38 = .inl (cI, 512, .inl (fun _ => 0)) := by rw [hc13, va_up_ne _ _ (by omega), q12_38]
  have q13_39 : ce13 39 = .inl (cI, 512, .inl (fun _ => 0)) := by rw [hc13, va_up_ne _ _ (by omega), q12_39]
  have qw13 : ce13 34 = .inr (3, [.int (nI 0), .ref (ad10 35), .ref (ad10 36), .ref (ad10 37), .ref (ad10 38), .ref (ad10 39), .int (nI 0), .int (nI 0), .int 0]) := by rw [hc13, va_up_self]
  have ec13 : ∀ j, j ≠ 34 → ce13 j = ce12 j := fun j h => by rw [hc13, va_up_ne _ _ h]
  clear hc13
  refine lv_aload_n hx hb dM_init_64 rfl (lv_at hl 0 rfl) ?_
  refine lv_iconst (v := nI 0) hx hb dM_init_65 (by decide +kernel) ?_
  refine va_put (D := D) (ci := 3) (v := .int (nI 0)) (ty := .int) (C := RM) (T := TM) (N := 9) hx hb hA9 inM tyM tyM_ok nmM hown hK hP hD hS 34 (wx_at (by omega) qw13) rfl 8 (by decide) (hA9 _ mfM_35) (fun _ h9 => h9) rfl (by decide +kernel) rfl rfl (Nat.le_of_ble_eq_true rfl) dM_init_66 (fun H locs hP hD hS => ?_)
  replace hP : va_P D CLS ((wx 40 ad10 ce13).set 34 (ad10 34, .inr (3, [.int (nI 0), .ref (ad10 35), .ref (ad10 36), .ref (ad10 37), .ref (ad10 38), .ref (ad10 39), .int (nI 0), .int (nI 0), .int (nI 0)]))) H := hP
  replace hD : va_D A ((wx 40 ad10 ce13).set 34 (ad10 34, .inr (3, [.int (nI 0), .ref (ad10 35), .ref (ad10 36), .ref (ad10 37), .ref (ad10 38), .ref (ad10 39), .int (nI 0), .int (nI 0), .int (nI 0)]))) := hD
  obtain ⟨ce14, hc14⟩ : ∃ z9, z9 = va_up ce13 34 (.inr (3, [.int (nI 0), .ref (ad10 35), .ref (ad10 36), .ref (ad10 37), .ref (ad10 38), .ref (ad10 39), .int (nI 0), .int (nI 0), .int (nI 0)])) := ⟨_, rfl⟩
  rw [wx_set (by omega), ← hc14] at hP hD
  have fc14 : ∀ j, j < 34 → ce14 j = ce j := fun j h => (by rw [hc14, va_up_ne _ _ (by omega)] : ce14 j = ce13 j).trans (fc13 j h)
  have q14_35 : ce14 35 = .inl (cI, 4000, .inl (fun _ => 0)) := by rw [hc14, va_up_ne _ _ (by omega), q13_35]
  have q14_36 : ce14 36 = .inl (cI, 4000, .inl (fun _ => 0)) := by rw [hc14, va_up_ne _ _ (by omega), q13_36]
  have q14_37 : ce14 37 = .inl (cI, 512, .inl (fun _ => 0)) := by rw [hc14, va_up_ne _ _ (by omega), q13_37]
  have q14_38 : ce14 38 = .inl (cI, 512, .inl (fun _ => 0)) := by rw [hc14, va_up_ne _ _ (by omega), q13_38]
  have q14_39 : ce14 39 = .inl (cI, 512, .inl (fun _ => 0)) := by rw [hc14, va_up_ne _ _ (by omega), q13_39]
  have qw14 : ce14 34 = .inr (3, [.int (nI 0), .ref (ad10 35), .ref (ad10 36), .ref (ad10 37), .ref (ad10 38), .ref (ad10 39), .int (nI 0), .int (nI 0), .int (nI 0)]) := by rw [hc14, va_up_self]
  have ec14 : ∀ j, j ≠ 34 → ce14 j = ce13 j := fun j h => by rw [hc14, va_up_ne _ _ h]
  clear hc14
  exact W.vret hx hb hr (fun t ht hW => ⟨⟨(ad10, ce14), rfl, ⟨fa10, fc14, qw14, q14_35, q14_36, q14_37, q14_38, q14_39⟩, by rw [ht]; exact hP, va_K.moved hW.alike hK, hD⟩, hS.F ht⟩) hS.2.2 dM_init_69
