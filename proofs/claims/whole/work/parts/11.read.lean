set_option maxHeartbeats 4000000 in
set_option maxRecDepth 100000 in
/-- Integer.bitCount -/
theorem c_J_bitCount (l : Launch) (N : Nat) (hN : N < 4294967296) : Met l yJ_bitCount (.code yJ_bitCount bJ_bitCount 1 (some .int) :: WA) ({ frames := 0, cells := 0, slots := 0, locals := 0 }) (P0 [.int (nI N)]) (vp_Si (fun r => r = nI (cn (bt (nI N)) 32))) 0 0 (fun _ => False) := by
  refine Met.ofW (cc := bJ_bitCount) (maxL := 1) (ret := (some .int)) (by decide) rfl ?_
  intro p e s m args below meth c s₁ B hml hv
  obtain ⟨rfl, -⟩ := hv
  have hx := B.exec
  have hb := B.bytes
  have hr := B.returns
  have hA9 : ∀ w ∈ WA, w.before _ s = true := fun w h => atoms_spec (ws := .code yJ_bitCount bJ_bitCount 1 (some .int) :: WA) B.pre w (List.mem_cons_of_mem _ h)
  have hown : s.vm.findClass RJ = some m.cls := findClass_of_methodNamed B.named
  have hlocks := B.notSynchronized
  have hl := lv_entry ([.int (nI N)]) (n := 1) (Nat.le_of_ble_eq_true rfl)
  rw [lg_entry_eq]
  generalize (lg_sl ([.int (nI N)]) ++ List.replicate (1 - (lg_sl ([.int (nI N)])).length) Slot.unset).toArray = ls at hl ⊢
  have hl : lv_has ls 1 [(0, .int (nI N))] := hl
  obtain ⟨n1, e1⟩ : ∃ z, z = N - (N / 2 &&& 1431655765) := ⟨_, rfl⟩
  obtain ⟨n2, e2⟩ : ∃ z, z = (n1 &&& 858993459) + (n1 / 4 &&& 858993459) := ⟨_, rfl⟩
  obtain ⟨n3, e3⟩ : ∃ z, z = (n2 + n2 / 16) &&& 252645135 := ⟨_, rfl⟩
  obtain ⟨n4, e4⟩ : ∃ z, z = n3 + n3 / 256 := ⟨_, rfl⟩
  obtain ⟨bc, h1, h2, -, h3, h4⟩ := bc_nat (b0 := N % 256) (b1 := N / 256 % 256) (b2 := N / 65536 % 256) (b3 := N / 16777216 % 256) (by omega) (by omega) (by omega) (by omega) (by omega) e1 e2 e3 e4
  refine lv_iload_n hx hb dJ_bitCount_0 rfl (lv_at hl 0 rfl) ?_
  refine lv_iload_n hx hb dJ_bitCount_1 rfl (lv_at hl 0 rfl) ?_
  refine lv_iconst (v := nI 1) hx hb dJ_bitCount_2 (by decide +kernel) ?_
  refine lv_iushr (v := nI (N / 2)) hx hb dJ_bitCount_3 (by exact pk_ushrN hN (nI 1) 1 (by decide +kernel)) ?_
  refine lv_ldcw (v := nI 1431655765) hx hb hown (hA9 _ mq_265) dJ_bitCount_4 ?_
  refine lv_iand hx hb dJ_bitCount_7 ?_
  refine lv_topi (fun z1 ez1 => ?_)
  obtain rfl : z1 = nI (N / 2 &&& 1431655765) := by rw [ez1]; exact nx_and _ _
  refine lv_isub hx hb dJ_bitCount_8 ?_
  refine lv_topi (fun z2 ez2 => ?_)
  obtain rfl : z2 = nI n1 := by rw [ez2]; rw [pk_sub (Nat.le_trans Nat.and_le_left (Nat.div_le_self _ _)), e1]
  refine lv_istore_n (lv' := [(0, .int (nI n1))]) hx hb dJ_bitCount_9 rfl hl (by decide) rfl (fun ls hl => ?_)
  refine lv_iload_n hx hb dJ_bitCount_10 rfl (lv_at hl 0 rfl) ?_
  refine lv_ldcw (v := nI 858993459) hx hb hown (hA9 _ mq_266) dJ_bitCount_11 ?_
  refine lv_iand hx hb dJ_bitCount_14 ?_
  refine lv_topi (fun z3 ez3 => ?_)
  obtain rfl : z3 = nI (n1 &&& 858993459) := by rw [ez3]; exact nx_and _ _
  refine lv_iload_n hx hb dJ_bitCount_15 rfl (lv_at hl 0 rfl) ?_
  refine lv_iconst (v := nI 2) hx hb dJ_bitCount_16 (by decide +kernel) ?_
  refine lv_iushr (v := nI (n1 / 4)) hx hb dJ_bitCount_17 (by exact pk_ushrN h1 (nI 2) 2 (by decide +kernel)) ?_
  refine lv_ldcw (v := nI 858993459) hx hb hown (hA9 _ mq_266) dJ_bitCount_18 ?_
  refine lv_iand hx hb dJ_bitCount_21 ?_
  refine lv_topi (fun z4 ez4 => ?_)
  obtain rfl : z4 = nI (n1 / 4 &&& 858993459) := by rw [ez4]; exact nx_and _ _
  refine lv_iadd hx hb dJ_bitCount_22 ?_
  refine lv_topi (fun z5 ez5 => ?_)
  obtain rfl : z5 = nI n2 := by rw [ez5]; rw [nI_add, e2]
  refine lv_istore_n (lv' := [(0, .int (nI n2))]) hx hb dJ_bitCount_23 rfl hl (by decide) rfl (fun ls hl => ?_)
  refine lv_iload_n hx hb dJ_bitCount_24 rfl (lv_at hl 0 rfl) ?_
  refine lv_iload_n hx hb dJ_bitCount_25 rfl (lv_at hl 0 rfl) ?_
  refine lv_iconst (v := nI 4) hx hb dJ_bitCount_26 (by decide +kernel) ?_
  refine lv_iushr (v := nI (n2 / 16)) hx hb dJ_bitCount_27 (by exact pk_ushrN h2 (nI 4) 4 (by decide +kernel)) ?_
  refine lv_iadd hx hb dJ_bitCount_28 ?_
  refine lv_topi (fun z6 ez6 => ?_)
  obtain rfl : z6 = nI (n2 + n2 / 16) := by rw [ez6]; exact nI_add _ _
  refine lv_ldcw (v := nI 252645135) hx hb hown (hA9 _ mq_267) dJ_bitCount_29 ?_
  refine lv_iand hx hb dJ_bitCount_32 ?_
  refine lv_topi (fun z7 ez7 => ?_)
  obtain rfl : z7 = nI n3 := by rw [ez7]; rw [nx_and, e3]
  refine lv_istore_n (lv' := [(0, .int (nI n3))]) hx hb dJ_bitCount_33 rfl hl (by decide) rfl (fun ls hl => ?_)
  refine lv_iload_n hx hb dJ_bitCount_34 rfl (lv_at hl 0 rfl) ?_
  refine lv_iload_n hx hb dJ_bitCount_35 rfl (lv_at hl 0 rfl) ?_
  refine lv_bipush (v := nI 8) hx hb dJ_bitCount_36 (by decide +kernel) ?_
  refine lv_iushr (v := nI (n3 / 256)) hx hb dJ_bitCount_38 (by exact pk_ushrN h3 (nI 8) 8 (by decide +kernel)) ?_
  refine lv_iadd hx hb dJ_bitCount_39 ?_
  refine lv_topi (fun z8 ez8 => ?_)
  obtain rfl : z8 = nI n4 := by rw [ez8]; rw [nI_add, e4]
  refine lv_istore_n (lv' := [(0, .int (nI n4))]) hx hb dJ_bitCount_40 rfl hl (by decide) rfl (fun ls hl => ?_)
  refine lv_iload_n hx hb dJ_bitCount_41 rfl (lv_at hl 0 rfl) ?_
  refine lv_iload_n hx hb dJ_bitCount_42 rfl (lv_at hl 0 rfl) ?_
  refine lv_bipush (v := nI 16) hx hb dJ_bitCount_43 (by decide +kernel) ?_
  refine lv_iushr (v := nI (n4 / 65536)) hx hb dJ_bitCount_45 (by exact pk_ushrN h4 (nI 16) 16 (by decide +kernel)) ?_
  refine lv_iadd hx hb dJ_bitCount_46 ?_
  refine lv_topi (fun z9 ez9 => ?_)
  obtain rfl : z9 = nI (n4 + n4 / 65536) := by rw [ez9]; exact nI_add _ _
  refine lv_istore_n (lv' := [(0, .int (nI (n4 + n4 / 65536)))]) hx hb dJ_bitCount_47 rfl hl (by decide) rfl (fun ls hl => ?_)
  refine lv_iload_n hx hb dJ_bitCount_48 rfl (lv_at hl 0 rfl) ?_
  refine lv_bipush (v := nI 63) hx hb dJ_bitCount_49 (by decide +kernel) ?_
  refine lv_iand hx hb dJ_bitCount_51 ?_
  refine lv_topi (fun z10 ez10 => ?_)
  obtain rfl : z10 = nI (cn (bt (nI N)) 32) := by rw [ez10]; rw [nx_and, show (63 : Nat) = 2 ^ 6 - 1 from rfl, Nat.and_two_pow_sub_one_eq_mod, bc, bc_cn]
  exact W.iret (v := (nI (cn (bt (nI N)) 32))) hx hb hr (fun t ht hW => ⟨(nI (cn (bt (nI N)) 32)), rfl, rfl, ht⟩) (fun q h => nomatch h) dJ_bitCount_52

set_option maxHeartbeats 4000000 in
set_option maxRecDepth 100000 in
theorem c_V_onesBefore (l : Launch) (D : va_G) (cI cO cJ : ClassId) (N : Nat) (ad : Nat → Nat) (ce : Nat → va_E) (k : Nat) (hk : k + 2 < N) (bb : Nat → Bool) (n : Nat) (hV : LV cI ad ce k bb n) (i : Nat) (hp : i ≤ n) : Met l yV_onesBefore (.code yV_onesBefore bV_onesBefore 4 (some .int) :: WA) ({ frames := 1, cells := 0, slots := 0, locals := 20 }) (PR D (TY cI cO cJ) N ad ce [.ref (ad k), .int (nI i)]) (vp_Si (fun r => r = nI (cn bb i))) 0 0 (fun _ => False) := by
  refine Met.ofW (cc := bV_onesBefore) (maxL := 4) (ret := (some .int)) (by decide) rfl ?_
  intro p e s m args below meth c s₁ B hml hv
  obtain ⟨rfl, hP, hK⟩ := hv
  have hx := B.exec
  have hb := B.bytes
  have hr := B.returns
  have hA9 : ∀ w ∈ WA, w.before _ s = true := fun w h => atoms_spec (ws := .code yV_onesBefore bV_onesBefore 4 (some .int) :: WA) B.pre w (List.mem_cons_of_mem _ h)
  have hown : s.vm.findClass RV = some m.cls := findClass_of_methodNamed B.named
  have hlocks := B.notSynchronized
  have hl := lv_entry ([.ref (ad k), .int (nI i)]) (n := 4) (Nat.le_of_ble_eq_true rfl)
  rw [lg_entry_eq]
  generalize (lg_sl ([.ref (ad k), .int (nI i)]) ++ List.replicate (4 - (lg_sl ([.ref (ad k), .int (nI i)])).length) Slot.unset).toArray = ls at hl ⊢
  have hl : lv_has ls 4 [(0, .ref (ad k)), (1, .int (nI i))] := hl
  obtain ⟨w, r, h0, h1, h2, hw, hrk, hn⟩ := id hV
  refine lv_iload_n hx hb dV_onesBefore_0 rfl (lv_at hl 1 rfl) ?_
  refine lv_bipush (v := nI 32) hx hb dV_onesBefore_1 (by decide +kernel) ?_
  refine lv_idiv hx hb dV_onesBefore_3 (by decide +kernel) ?_
  refine lv_topi (fun z1 ez1 => ?_)
  obtain rfl : z1 = nI (i / 32) := by rw [ez1]; exact pk_div (by omega) (by omega) (by omega)
  refine lv_istore_n (lv' := [(2, .int (nI (i / 32))), (0, .ref (ad k)), (1, .int (nI i))]) hx hb dV_onesBefore_4 rfl hl (by decide) rfl (fun ls hl => ?_)
  refine lv_iconst (v := nI 1) hx hb dV_onesBefore_5 (by decide +kernel) ?_
  refine lv_iload_n hx hb dV_onesBefore_6 rfl (lv_at hl 2 rfl) ?_
  refine lv_bipush (v := nI 32) hx hb dV_onesBefore_7 (by decide +kernel) ?_
  refine lv_irem hx hb dV_onesBefore_9 (by decide +kernel) ?_
  refine lv_topi (fun z2 ez2 => ?_)
  obtain rfl : z2 = nI (i % 32) := by rw [ez2]; exact pk_rem (by omega) (by omega) (by omega)
  refine lv_ishl hx hb dV_onesBefore_10 ?_
  refine lv_topi (fun z3 ez3 => ?_)
  obtain rfl : z3 = nI (1 * 2 ^ (i % 32)) := by rw [ez3]; exact pk_shlN _ (i % 32) (s_l _ (by omega)) (pw32 (by omega))
  refine lv_iconst (v := nI 1) hx hb dV_onesBefore_11 (by decide +kernel) ?_
  refine lv_isub hx hb dV_onesBefore_12 ?_
  refine lv_topi (fun z4 ez4 => ?_)
  obtain rfl : z4 = nI (1 * 2 ^ (i % 32) - 1) := by rw [ez4]; exact pk_sub (by have := Nat.two_pow_pos (i % 32); omega)
  refine lv_istore_n (lv' := [(3, .int (nI (1 * 2 ^ (i % 32) - 1))), (2, .int (nI (i / 32))), (0, .ref (ad k)), (1, .int (nI i))]) hx hb dV_onesBefore_13 rfl hl (by decide) rfl (fun ls hl => ?_)
  refine lv_aload_n hx hb dV_onesBefore_14 rfl (lv_at hl 2 rfl) ?_
  refine va_get (D := D) (ci := 0) (v := .ref (ad (k + 2))) (C := RV) (T := TV) (N := 4) hx hb hA9 inV hown hK hP k (wx_at (by omega) h0) rfl 1 (by decide) (hA9 _ mfV_15) (fun _ h9 => h9) rfl dV_onesBefore_15 ?_
  refine lv_iload_n hx hb dV_onesBefore_18 rfl (lv_at hl 1 rfl) ?_
  refine va_iald hx hb hK hP (k + 2) 0 (wx_at (by omega) h2) rfl (inN) dV_onesBefore_19 ?_
  refine lv_topi (fun z5 ez5 => ?_)
  obtain rfl : z5 = nI (cn bb (32 * (i / 32))) := by rw [ez5, clN]; exact hrk _ (by omega)
  refine lv_aload_n hx hb dV_onesBefore_20 rfl (lv_at hl 2 rfl) ?_
  refine va_get (D := D) (ci := 0) (v := .ref (ad (k + 1))) (C := RV) (T := TV) (N := 4) hx hb hA9 inV hown hK hP k (wx_at (by omega) h0) rfl 0 (by decide) (hA9 _ mfV_9) (fun _ h9 => h9) rfl dV_onesBefore_21 ?_
  refine lv_iload_n hx hb dV_onesBefore_24 rfl (lv_at hl 1 rfl) ?_
  refine va_iald hx hb hK hP (k + 1) 0 (wx_at (by omega) h1) rfl (inN) dV_onesBefore_25 ?_
  refine lv_topi (fun z6 ez6 => ?_)
  obtain rfl : z6 = w (i / 32) := by rw [ez6, clN]
  refine lv_iload_n hx hb dV_onesBefore_26 rfl (lv_at hl 0 rfl) ?_
  obtain ⟨M, hM, eM⟩ := of32 (w (i / 32) &&& nI (1 * 2 ^ (i % 32) - 1))
  refine lv_iand hx hb dV_onesBefore_27 ?_
  refine lv_topi (fun z7 ez7 => ?_)
  obtain rfl : z7 = nI M := by rw [ez7]; exact eM
  refine vp_callSi (va_runS (As := [.int (nI M)]) (rest := [.int (nI (cn bb (32 * (i / 32))))]) ⟨hx, hb, hml, hown, hA9⟩ (c_J_bitCount l M hM) (va_cwS 1 hA9 (gS mlV_31 mtJ_bitCount mn_J mkJ_bitCount) rfl rfl rfl (by decide +kernel) ⟨Nat.le_of_ble_eq_true rfl, Nat.le_of_ble_eq_true rfl⟩) ⟨P0_bl, P0_mk⟩ rfl rfl hl.1 rfl (lv_room (Nat.le_of_ble_eq_true rfl)) dV_onesBefore_28 ⟨Nat.le_of_ble_eq_true rfl, Nat.le_of_ble_eq_true rfl⟩).run (fun r8 hr8 => ?_)
  obtain rfl : r8 = nI (cn (bt (nI M)) 32) := hr8
  refine lv_iadd hx hb dV_onesBefore_31 ?_
  refine lv_topi (fun z9 ez9 => ?_)
  obtain rfl : z9 = nI (cn bb i) := by rw [ez9]; rw [nI_add, ob_sum (by omega) hw eM]
  exact W.iret (v := (nI (cn bb i))) hx hb hr (fun t ht hW => ⟨(nI (cn bb i)), rfl, rfl, ht⟩) (fun q h => nomatch h) dV_onesBefore_32

set_option maxHeartbeats 4000000 in
set_option maxRecDepth 100000 in
theorem c_V_bitAt (l : Launch) (D : va_G) (cI cO cJ : ClassId) (N : Nat) (ad : Nat → Nat) (ce : Nat → va_E) (k : Nat) (hk : k + 2 < N) (bb : Nat → Bool) (n : Nat) (hV : LV cI ad ce k bb n) (i : Nat) (hp : i < n) : Met l yV_bitAt (.code yV_bitAt bV_bitAt 2 (some .int) :: WA) ({ frames := 0, cells := 0, slots := 0, locals := 0 }) (PR D (TY cI cO cJ) N ad ce [.ref (ad k), .int (nI i)]) (vp_Si (fun r => r = nI (bN (bb i)))) 0 0 (fun _ => False) := by
  refine Met.ofW (cc := bV_bitAt) (maxL := 2) (ret := (some .int)) (by decide) rfl ?_
  intro p e s m args below meth c s₁ B hml hv
  obtain ⟨rfl, hP, hK⟩ := hv
  have hx := B.exec
  have hb := B.bytes
  have hr := B.returns
  have hA9 : ∀ w ∈ WA, w.before _ s = true := fun w h => atoms_spec (ws := .code yV_bitAt bV_bitAt 2 (some .int) :: WA) B.pre w (List.mem_cons_of_mem _ h)
  have hown : s.vm.findClass RV = some m.cls := findClass_of_methodNamed B.named
  have hlocks := B.notSynchronized
  have hl := lv_entry ([.ref (ad k), .int (nI i)]) (n := 2) (Nat.le_of_ble_eq_true rfl)
  rw [lg_entry_eq]
  generalize (lg_sl ([.ref (ad k), .int (nI i)]) ++ List.replicate (2 - (lg_sl ([.ref (ad k), .int (nI i)])).length) Slot.unset).toArray = ls at hl ⊢
  have hl : lv_has ls 2 [(0, .ref (ad k)), (1, .int (nI i))] := hl
  obtain ⟨w, r, h0, h1, h2, hw, hrk, hn⟩ := id hV
  refine lv_aload_n hx hb dV_bitAt_0 rfl (lv_at hl 0 rfl) ?_
  refine va_get (D := D) (ci := 0) (v := .ref (ad (k + 1))) (C := RV) (T := TV) (N := 4) hx hb hA9 inV hown hK hP k (wx_at (by omega) h0) rfl 0 (by decide) (hA9 _ mfV_9) (fun _ h9 => h9) rfl dV_bitAt_1 ?_
  refine lv_iload_n hx hb dV_bitAt_4 rfl (lv_at hl 1 rfl) ?_
  refine lv_bipush (v := nI 32) hx hb dV_bitAt_5 (by decide +kernel) ?_
  refine lv_idiv hx hb dV_bitAt_7 (by decide +kernel) ?_
  refine lv_topi (fun z1 ez1 => ?_)
  obtain rfl : z1 = nI (i / 32) := by rw [ez1]; exact pk_div (by omega) (by omega) (by omega)
  refine va_iald hx hb hK hP (k + 1) 0 (wx_at (by omega) h1) rfl (inN) dV_bitAt_8 ?_
  refine lv_topi (fun z2 ez2 => ?_)
  obtain rfl : z2 = w (i / 32) := by rw [ez2, clN]
  refine lv_iload_n hx hb dV_bitAt_9 rfl (lv_at hl 1 rfl) ?_
  refine lv_bipush (v := nI 32) hx hb dV_bitAt_10 (by decide +kernel) ?_
  refine lv_irem hx hb dV_bitAt_12 (by decide +kernel) ?_
  refine lv_topi (fun z3 ez3 => ?_)
  obtain rfl : z3 = nI (i % 32) := by rw [ez3]; exact pk_rem (by omega) (by omega) (by omega)
  refine lv_iushr (v := ((w (i / 32)).toUInt32 >>> ((nI (i % 32)).toUInt32 &&& Int32.toUInt32 31)).toInt32) hx hb dV_bitAt_13 (by rfl) ?_
  refine lv_iconst (v := nI 1) hx hb dV_bitAt_14 (by decide +kernel) ?_
  refine lv_iand hx hb dV_bitAt_15 ?_
  refine lv_topi (fun z4 ez4 => ?_)
  obtain rfl : z4 = nI (bN (bb i)) := by rw [ez4]; exact ba_bit (by omega) (by rw [hw _ _ (by omega) (by omega), show 32 * (i / 32) + i % 32 = i by omega])
  exact W.iret (v := (nI (bN (bb i)))) hx hb hr (fun t ht hW => ⟨(nI (bN (bb i))), rfl, rfl, ht⟩) (fun q h => nomatch h) dV_bitAt_16

set_option maxHeartbeats 4000000 in
set_option maxRecDepth 100000 in
theorem c_V_down (l : Launch) (D : va_G) (cI cO cJ : ClassId) (N : Nat) (ad : Nat → Nat) (ce : Nat → va_E) (k : Nat) (hk : k + 2 < N) (bb : Nat → Bool) (n : Nat) (hV : LV cI ad ce k bb n) (x : Bool) (i : Nat) (hp : i ≤ n) : Met l yV_down (.code yV_down bV_down 3 (some .int) :: WA) ({ frames := 2, cells := 0, slots := 0, locals := 43 }) (PR D (TY cI cO cJ) N ad ce [.ref (ad k), .int (nI (bN x)), .int (nI i)]) (vp_Si (fun r => r = nI (dn bb n x i))) 0 0 (fun _ => False) := by
  refine Met.ofW (cc := bV_down) (maxL := 3) (ret := (some .int)) (by decide) rfl ?_
  intro p e s m args below meth c s₁ B hml hv
  obtain ⟨rfl, hP, hK⟩ := hv
  have hx := B.exec
  have hb := B.bytes
  have hr := B.returns
  have hA9 : ∀ w ∈ WA, w.before _ s = true := fun w h => atoms_spec (ws := .code yV_down bV_down 3 (some .int) :: WA) B.pre w (List.mem_cons_of_mem _ h)
  have hown : s.vm.findClass RV = some m.cls := findClass_of_methodNamed B.named
  have hlocks := B.notSynchronized
  have hl := lv_entry ([.ref (ad k), .int (nI (bN x)), .int (nI i)]) (n := 3) (Nat.le_of_ble_eq_true rfl)
  rw [lg_entry_eq]
  generalize (lg_sl ([.ref (ad k), .int (nI (bN x)), .int (nI i)]) ++ List.replicate (3 - (lg_sl ([.ref (ad k), .int (nI (bN x)), .int (nI i)])).length) Slot.unset).toArray = ls at hl ⊢
  have hl : lv_has ls 3 [(0, .ref (ad k)), (1, .int (nI (bN x))), (2, .int (nI i))] := hl
  obtain ⟨w, r, h0, h1, h2, hw, hrk, hn⟩ := id hV
  refine lv_iload_n hx hb dV_down_0 rfl (lv_at hl 1 rfl) ?_
  refine lv_iconst (v := nI 1) hx hb dV_down_1 (by decide +kernel) ?_
  refine lv_icmp_ne (tgt := 18) hx hb dV_down_2 (by decide) (fun c2 => ?_) (fun c2 => ?_)
  · skip
    have hxf := bx_f c2
    refine lv_iload_n hx hb dV_down_18 rfl (lv_at hl 2 rfl) ?_
    refine lv_aload_n hx hb dV_down_19 rfl (lv_at hl 0 rfl) ?_
    refine lv_iload_n hx hb dV_down_20 rfl (lv_at hl 2 rfl) ?_
    refine vp_callSi (va_runV (As := [.int (nI i)]) (rest := [.int (nI i)]) ⟨hx, hb, hml, hown, hA9⟩ (c_V_onesBefore l D cI cO cJ N ad ce k hk bb n hV i hp) (cwV 1 hA9 (gV mlV_37 miV_onesBefore msV_onesBefore mn_V mkV_onesBefore) rfl rfl rfl (by decide +kernel) ⟨Nat.le_of_ble_eq_true rfl, Nat.le_of_ble_eq_true rfl⟩) ⟨PR_bl, wx_recv hK hP (by omega) h0 rfl, PR_mk hK hP⟩ rfl rfl hl.1 rfl (lv_room (Nat.le_of_ble_eq_true rfl)) dV_down_21 ⟨Nat.le_of_ble_eq_true rfl, Nat.le_of_ble_eq_true rfl⟩).run (fun r1 hr1 => ?_)
    obtain rfl : r1 = nI (cn bb i) := hr1
    refine lv_isub hx hb dV_down_24 ?_
    refine lv_topi (fun z2 ez2 => ?_)
    obtain rfl : z2 = nI (dn bb n x i) := by rw [ez2]; rw [hxf, dn_0]; exact pk_sub (cn_le _ _)
    exact W.iret (v := (nI (dn bb n x i))) hx hb hr (fun t ht hW => ⟨(nI (dn bb n x i)), rfl, rfl, ht⟩) (fun q h => nomatch h) dV_down_25
  · skip
    have hxt := bx_t c2
    refine lv_aload_n hx hb dV_down_5 rfl (lv_at hl 0 rfl) ?_
    refine va_get (D := D) (ci := 0) (v := .int (nI (n - cn bb n))) (C := RV) (T := TV) (N := 4) hx hb hA9 inV hown hK hP k (wx_at (by omega) h0) rfl 3 (by decide) (hA9 _ mfV_22) (fun _ h9 => h9) rfl dV_down_6 ?_
    refine lv_aload_n hx hb dV_down_9 rfl (lv_at hl 0 rfl) ?_
    refine lv_iload_n hx hb dV_down_10 rfl (lv_at hl 2 rfl) ?_
    refine vp_callSi (va_runV (As := [.int (nI i)]) (rest := [.int (nI (n - cn bb n))]) ⟨hx, hb, hml, hown, hA9⟩ (c_V_onesBefore l D cI cO cJ N ad ce k hk bb n hV i hp) (cwV 1 hA9 (gV mlV_37 miV_onesBefore msV_onesBefore mn_V mkV_onesBefore) rfl rfl rfl (by decide +kernel) ⟨Nat.le_of_ble_eq_true rfl, Nat.le_of_ble_eq_true rfl⟩) ⟨PR_bl, wx_recv hK hP (by omega) h0 rfl, PR_mk hK hP⟩ rfl rfl hl.1 rfl (lv_room (Nat.le_of_ble_eq_true rfl)) dV_down_11 ⟨Nat.le_of_ble_eq_true rfl, Nat.le_of_ble_eq_true rfl⟩).run (fun r3 hr3 => ?_)
    obtain rfl : r3 = nI (cn bb i) := hr3
    refine lv_iadd hx hb dV_down_14 ?_
    refine lv_topi (fun z4 ez4 => ?_)
    obtain rfl : z4 = nI (dn bb n x i) := by rw [ez4]; rw [hxt, dn_1]; exact nI_add _ _
    refine lv_goto (tgt := 25) hx hb dV_down_15 (by decide) ?_
    exact W.iret (v := (nI (dn bb n x i))) hx hb hr (fun t ht hW => ⟨(nI (dn bb n x i)), rfl, rfl, ht⟩) (fun q h => nomatch h) dV_down_25

set_option maxHeartbeats 4000000 in
set_option maxRecDepth 100000 in
theorem c_V_up (l : Launch) (D : va_G) (cI cO cJ : ClassId) (N : Nat) (ad : Nat → Nat) (ce : Nat → va_E) (k : Nat) (hk : k + 2 < N) (bb : Nat → Bool) (n : Nat) (hV : LV cI ad ce k bb n) (x : Bool) (j0 : Nat) (hj : j0 < n) (hb0 : bb j0 = x) : Met l yV_up (.code yV_up bV_up 5 (some .int) :: WA) ({ frames := 3, cells := 0, slots := 0, locals := 65 }) (PR D (TY cI cO cJ) N ad ce [.ref (ad k), .int (nI (bN x)), .int (nI (dn bb n x j0))]) (vp_Si (fun r => r = nI j0)) 0 0 (fun _ => False) := by
  refine Met.ofW (cc := bV_up) (maxL := 5) (ret := (some .int)) (by decide) rfl ?_
  intro p e s m args below meth c s₁ B hml hv
  obtain ⟨rfl, hP, hK⟩ := hv
  have hx := B.exec
  have hb := B.bytes
  have hr := B.returns
  have hA9 : ∀ w ∈ WA, w.before _ s = true := fun w h => atoms_spec (ws := .code yV_up bV_up 5 (some .int) :: WA) B.pre w (List.mem_cons_of_mem _ h)
  have hown : s.vm.findClass RV = some m.cls := findClass_of_methodNamed B.named
  have hlocks := B.notSynchronized
  have hl := lv_entry ([.ref (ad k), .int (nI (bN x)), .int (nI (dn bb n x j0))]) (n := 5) (Nat.le_of_ble_eq_true rfl)
  rw [lg_entry_eq]
  generalize (lg_sl ([.ref (ad k), .int (nI (bN x)), .int (nI (dn bb n x j0))]) ++ List.replicate (5 - (lg_sl ([.ref (ad k), .int (nI (bN x)), .int (nI (dn bb n x j0))])).length) Slot.unset).toArray = ls at hl ⊢
  have hl : lv_has ls 5 [(0, .ref (ad k)), (1, .int (nI (bN x))), (2, .int (nI (dn bb n x j0)))] := hl
  obtain ⟨w, r, h0, h1, h2, hw, hrk, hn⟩ := id hV
  refine lv_iconst (v := nI 0) hx hb dV_up_0 (by decide +kernel) ?_
  refine lv_istore_n (lv' := [(3, .int (nI 0)), (0, .ref (ad k)), (1, .int (nI (bN x))), (2, .int (nI (dn bb n x j0)))]) hx hb dV_up_1 rfl hl (by decide) rfl (fun ls hl => ?_)
  refine lv_sipush (v := nI 2048) hx hb dV_up_2 (by decide +kernel) ?_
  refine lv_istore (lv' := [(4, .int (nI 2048)), (3, .int (nI 0)), (0, .ref (ad k)), (1, .int (nI (bN x))), (2, .int (nI (dn bb n x j0)))]) hx hb dV_up_5 hl (by decide) rfl (fun ls hl => ?_)
  obtain ⟨a, ha0⟩ : ∃ z : Nat, (0) = z := ⟨_, rfl⟩
  obtain ⟨j, hj0⟩ : ∃ z : Nat, (12) = z := ⟨_, rfl⟩
  replace hl : lv_has ls 5 [(4, .int (nI (2 ^ j / 2))), (3, .int (nI a)), (0, .ref (ad k)), (1, .int (nI (bN x))), (2, .int (nI (dn bb n x j0)))] := by subst ha0 hj0; exact lv_sub hl [0, 1, 2, 3, 4] rfl
  have J : j ≤ 12 ∧ a < n ∧ dn bb n x a ≤ dn bb n x j0 ∧ ∀ t, t < n → a + 2 ^ j ≤ t → dn bb n x j0 < dn bb n x t := by subst ha0 hj0; exact ⟨by omega, by omega, dn_mono _ _ _ (by omega), fun t h1 h2 => absurd h2 (by omega)⟩
  clear ha0
  clear hj0
  obtain ⟨k9, hk9⟩ : ∃ z9 : Nat, z9 = j := ⟨_, rfl⟩
  induction k9 using Nat.strongRecOn generalizing a j ls with
  | ind k9 ih =>
    obtain ⟨j1, j2, j3, j4⟩ := J
    have jp : 2 ^ j ≤ 4096 := Nat.le_trans (Nat.pow_le_pow_right (by omega) j1) (by decide)
    refine lv_iload hx hb dV_up_7 (lv_at hl 0 rfl) ?_
    refine lv_if_le (tgt := 50) hx hb dV_up_9 (by decide) (fun c9 => ?_) (fun c9 => ?_)
    · skip
      have hj0 : j = 0 := by
        rcases Nat.eq_zero_or_pos j with q | q
        · exact q
        · have h1 := Nat.pow_le_pow_right (show 0 < 2 by omega) q
          have h2 := leN (b := 0) c9
          omega
      subst hj0
      have hfin : a = j0 := up_last hb0 j3 (fun t h1 h2 => j4 t h2 (by omega)) hj
      refine lv_iload_n hx hb dV_up_50 rfl (lv_at hl 1 rfl) ?_
      exact W.iret (v := (nI a)) hx hb hr (fun t ht hW => ⟨(nI a), rfl, by rw [hfin], ht⟩) (fun q h => nomatch h) dV_up_51
    · skip
      have hj0 : 0 < j := by
        rcases Nat.eq_zero_or_pos j with q | q
        · subst q; exact absurd (show nI (2 ^ 0 / 2) ≤ 0 by decide +kernel) c9
        · exact q
      obtain ⟨jj, rfl⟩ : ∃ jj, j = jj + 1 := ⟨j - 1, by omega⟩
      have jh := hf2 jj
      have jq : 2 ^ (jj + 1) = 2 * 2 ^ jj := by rw [Nat.pow_succ]; omega
      refine lv_iload_n hx hb dV_up_12 rfl (lv_at hl 1 rfl) ?_
      refine lv_iload hx hb dV_up_13 (lv_at hl 0 rfl) ?_
      refine lv_iadd hx hb dV_up_15 ?_
      refine lv_topi (fun z1 ez1 => ?_)
      obtain rfl : z1 = nI (a + 2 ^ jj) := by rw [ez1]; rw [jh]; exact nI_add _ _
      refine lv_aload_n hx hb dV_up_16 rfl (lv_at hl 2 rfl) ?_
      refine va_get (D := D) (ci := 0) (v := .int (nI n)) (C := RV) (T := TV) (N := 4) hx hb hA9 inV hown hK hP k (wx_at (by omega) h0) rfl 2 (by decide) (hA9 _ mfV_18) (fun _ h9 => h9) rfl dV_up_17 ?_
      refine lv_icmp_ge (tgt := 41) hx hb dV_up_20 (by decide) (fun c20 => ?_) (fun c20 => ?_)
      · skip
        have d1 := leN c20
        refine lv_iload hx hb dV_up_41 (lv_at hl 0 rfl) ?_
        refine lv_iconst (v := nI 2) hx hb dV_up_43 (by decide +kernel) ?_
        refine lv_idiv hx hb dV_up_44 (by decide +kernel) ?_
        refine lv_topi (fun z2 ez2 => ?_)
        obtain rfl : z2 = nI (2 ^ jj / 2) := by rw [ez2]; rw [jh]; exact pk_div (by omega) (by omega) (by omega)
        refine lv_istore (lv' := [(4, .int (nI (2 ^ jj / 2))), (3, .int (nI a)), (0, .ref (ad k)), (1, .int (nI (bN x))), (2, .int (nI (dn bb n x j0)))]) hx hb dV_up_45 hl (by decide) rfl (fun ls hl => ?_)
        refine lv_goto (tgt := 7) hx hb dV_up_47 (by decide) ?_
        
        exact ih _ (by omega) (ls := ls) (a := a) (j := jj) (lv_sub hl [0, 1, 2, 3, 4] rfl) (⟨by omega, by omega, j3, fun t h1 h2 => by omega⟩) rfl
      · skip
        have d1 := nleN c20
        refine lv_aload_n hx hb dV_up_23 rfl (lv_at hl 2 rfl) ?_
        refine lv_iload_n hx hb dV_up_24 rfl (lv_at hl 3 rfl) ?_
        refine lv_iload_n hx hb dV_up_25 rfl (lv_at hl 1 rfl) ?_
        refine lv_iload hx hb dV_up_26 (lv_at hl 0 rfl) ?_
        refine lv_iadd hx hb dV_up_28 ?_
        refine lv_topi (fun z3 ez3 => ?_)
        obtain rfl : z3 = nI (a + 2 ^ jj) := by rw [ez3]; rw [jh]; exact nI_add _ _
        have b1 := dn_le bb x (show a + 2 ^ jj ≤ n by omega)
        have b2 := dn_le bb x (show j0 ≤ n by omega)
        refine vp_callSi (va_runV (As := [.int (nI (bN x)), .int (nI (a + 2 ^ jj))]) (rest := []) ⟨hx, hb, hml, hown, hA9⟩ (c_V_down l D cI cO cJ N ad ce k hk bb n hV x (a + 2 ^ jj) (by omega)) (cwV 2 hA9 (gV mlV_40 miV_down msV_down mn_V mkV_down) rfl rfl rfl (by decide +kernel) ⟨Nat.le_of_ble_eq_true rfl, Nat.le_of_ble_eq_true rfl⟩) ⟨PR_bl, wx_recv hK hP (by omega) h0 rfl, PR_mk hK hP⟩ rfl rfl hl.1 rfl (lv_room (Nat.le_of_ble_eq_true rfl)) dV_up_29 ⟨Nat.le_of_ble_eq_true rfl, Nat.le_of_ble_eq_true rfl⟩).run (fun r4 hr4 => ?_)
        obtain rfl : r4 = nI (dn bb n x (a + 2 ^ jj)) := hr4
        refine lv_iload_n hx hb dV_up_32 rfl (lv_at hl 4 rfl) ?_
        refine lv_icmp_gt (tgt := 41) hx hb dV_up_33 (by decide) (fun c33 => ?_) (fun c33 => ?_)
        · skip
          have d2 := ltN c33
          refine lv_iload hx hb dV_up_41 (lv_at hl 0 rfl) ?_
          refine lv_iconst (v := nI 2) hx hb dV_up_43 (by decide +kernel) ?_
          refine lv_idiv hx hb dV_up_44 (by decide +kernel) ?_
          refine lv_topi (fun z5 ez5 => ?_)
          obtain rfl : z5 = nI (2 ^ jj / 2) := by rw [ez5]; rw [jh]; exact pk_div (by omega) (by omega) (by omega)
          refine lv_istore (lv' := [(4, .int (nI (2 ^ jj / 2))), (3, .int (nI a)), (0, .ref (ad k)), (1, .int (nI (bN x))), (2, .int (nI (dn bb n x j0)))]) hx hb dV_up_45 hl (by decide) rfl (fun ls hl => ?_)
          refine lv_goto (tgt := 7) hx hb dV_up_47 (by decide) ?_
          
          exact ih _ (by omega) (ls := ls) (a := a) (j := jj) (lv_sub hl [0, 1, 2, 3, 4] rfl) (⟨by omega, by omega, j3, fun t h1 h2 => by have := dn_mono bb n x h2; omega⟩) rfl
        · skip
          have d2 := nltN c33
          refine lv_iload_n hx hb dV_up_36 rfl (lv_at hl 1 rfl) ?_
          refine lv_iload hx hb dV_up_37 (lv_at hl 0 rfl) ?_
          refine lv_iadd hx hb dV_up_39 ?_
          refine lv_topi (fun z6 ez6 => ?_)
          obtain rfl : z6 = nI (a + 2 ^ jj) := by rw [ez6]; rw [jh]; exact nI_add _ _
          refine lv_istore_n (lv' := [(3, .int (nI (a + 2 ^ jj))), (4, .int (nI (2 ^ (jj + 1) / 2))), (0, .ref (ad k)), (1, .int (nI (bN x))), (2, .int (nI (dn bb n x j0)))]) hx hb dV_up_40 rfl hl (by decide) rfl (fun ls hl => ?_)
          refine lv_iload hx hb dV_up_41 (lv_at hl 1 rfl) ?_
          refine lv_iconst (v := nI 2) hx hb dV_up_43 (by decide +kernel) ?_
          refine lv_idiv hx hb dV_up_44 (by decide +kernel) ?_
          refine lv_topi (fun z7 ez7 => ?_)
          obtain rfl : z7 = nI (2 ^ jj / 2) := by rw [ez7]; rw [jh]; exact pk_div (by omega) (by omega) (by omega)
          refine lv_istore (lv' := [(4, .int (nI (2 ^ jj / 2))), (3, .int (nI (a + 2 ^ jj))), (0, .ref (ad k)), (1, .int (nI (bN x))), (2, .int (nI (dn bb n x j0)))]) hx hb dV_up_45 hl (by decide) rfl (fun ls hl => ?_)
          refine lv_goto (tgt := 7) hx hb dV_up_47 (by decide) ?_
          
          exact ih _ (by omega) (ls := ls) (a := a + 2 ^ jj) (j := jj) (lv_sub hl [0, 1, 2, 3, 4] rfl) (⟨by omega, by omega, d2, fun t h1 h2 => j4 t h1 (by omega)⟩) rfl
