set_option maxHeartbeats 4000000 in
set_option maxRecDepth 100000 in
theorem c_T_shiftOf (l : Launch) (d : Nat) (hd : d ≤ 8) : Met l yT_shiftOf (.code yT_shiftOf bT_shiftOf 1 (some .int) :: WA) ({ frames := 0, cells := 0, slots := 0, locals := 0 }) (P0 [.int (nI d)]) (vp_Si (fun r => r = nI (8 - d))) 0 0 (fun _ => False) := by
  refine Met.ofW (cc := bT_shiftOf) (maxL := 1) (ret := (some .int)) (by decide) rfl ?_
  intro p e s m args below meth c s₁ B hml hv
  obtain ⟨rfl, -⟩ := hv
  have hx := B.exec
  have hb := B.bytes
  have hr := B.returns
  have hA9 : ∀ w ∈ WA, w.before _ s = true := fun w h => atoms_spec (ws := .code yT_shiftOf bT_shiftOf 1 (some .int) :: WA) B.pre w (List.mem_cons_of_mem _ h)
  have hown : s.vm.findClass RT = some m.cls := findClass_of_methodNamed B.named
  have hlocks := B.notSynchronized
  have hl := lv_entry ([.int (nI d)]) (n := 1) (Nat.le_of_ble_eq_true rfl)
  rw [lg_entry_eq]
  generalize (lg_sl ([.int (nI d)]) ++ List.replicate (1 - (lg_sl ([.int (nI d)])).length) Slot.unset).toArray = ls at hl ⊢
  have hl : lv_has ls 1 [(0, .int (nI d))] := hl
  refine lv_bipush (v := nI 8) hx hb dT_shiftOf_0 (by decide +kernel) ?_
  refine lv_iload_n hx hb dT_shiftOf_2 rfl (lv_at hl 0 rfl) ?_
  refine lv_isub hx hb dT_shiftOf_3 ?_
  refine lv_topi (fun z1 ez1 => ?_)
  obtain rfl : z1 = nI (8 - d) := by rw [ez1]; exact pk_sub (by omega)
  exact W.iret (v := (nI (8 - d))) hx hb hr (fun t ht hW => ⟨(nI (8 - d)), rfl, rfl, ht⟩) (fun q h => nomatch h) dT_shiftOf_4

set_option maxHeartbeats 4000000 in
set_option maxRecDepth 100000 in
theorem c_L_numberOf (l : Launch) (g : Nat) (hg : g < 2147483648) : Met l yL_numberOf (.code yL_numberOf bL_numberOf 1 (some .int) :: WA) ({ frames := 0, cells := 0, slots := 0, locals := 0 }) (P0 [.int (nI g)]) (vp_Si (fun r => r = nI (g / 4096))) 0 0 (fun _ => False) := by
  refine Met.ofW (cc := bL_numberOf) (maxL := 1) (ret := (some .int)) (by decide) rfl ?_
  intro p e s m args below meth c s₁ B hml hv
  obtain ⟨rfl, -⟩ := hv
  have hx := B.exec
  have hb := B.bytes
  have hr := B.returns
  have hA9 : ∀ w ∈ WA, w.before _ s = true := fun w h => atoms_spec (ws := .code yL_numberOf bL_numberOf 1 (some .int) :: WA) B.pre w (List.mem_cons_of_mem _ h)
  have hown : s.vm.findClass RL = some m.cls := findClass_of_methodNamed B.named
  have hlocks := B.notSynchronized
  have hl := lv_entry ([.int (nI g)]) (n := 1) (Nat.le_of_ble_eq_true rfl)
  rw [lg_entry_eq]
  generalize (lg_sl ([.int (nI g)]) ++ List.replicate (1 - (lg_sl ([.int (nI g)])).length) Slot.unset).toArray = ls at hl ⊢
  have hl : lv_has ls 1 [(0, .int (nI g))] := hl
  refine lv_iload_n hx hb dL_numberOf_0 rfl (lv_at hl 0 rfl) ?_
  refine lv_sipush (v := nI 4096) hx hb dL_numberOf_1 (by decide +kernel) ?_
  refine lv_idiv hx hb dL_numberOf_4 (by decide +kernel) ?_
  refine lv_topi (fun z1 ez1 => ?_)
  obtain rfl : z1 = nI (g / 4096) := by rw [ez1]; exact pk_div hg (by omega) (by omega)
  exact W.iret (v := (nI (g / 4096))) hx hb hr (fun t ht hW => ⟨(nI (g / 4096)), rfl, rfl, ht⟩) (fun q h => nomatch h) dL_numberOf_5

set_option maxHeartbeats 4000000 in
set_option maxRecDepth 100000 in
theorem c_L_timesIn (l : Launch) (g : Nat) (hg : g < 2147483648) : Met l yL_timesIn (.code yL_timesIn bL_timesIn 1 (some .int) :: WA) ({ frames := 0, cells := 0, slots := 0, locals := 0 }) (P0 [.int (nI g)]) (vp_Si (fun r => r = nI (g % 4096))) 0 0 (fun _ => False) := by
  refine Met.ofW (cc := bL_timesIn) (maxL := 1) (ret := (some .int)) (by decide) rfl ?_
  intro p e s m args below meth c s₁ B hml hv
  obtain ⟨rfl, -⟩ := hv
  have hx := B.exec
  have hb := B.bytes
  have hr := B.returns
  have hA9 : ∀ w ∈ WA, w.before _ s = true := fun w h => atoms_spec (ws := .code yL_timesIn bL_timesIn 1 (some .int) :: WA) B.pre w (List.mem_cons_of_mem _ h)
  have hown : s.vm.findClass RL = some m.cls := findClass_of_methodNamed B.named
  have hlocks := B.notSynchronized
  have hl := lv_entry ([.int (nI g)]) (n := 1) (Nat.le_of_ble_eq_true rfl)
  rw [lg_entry_eq]
  generalize (lg_sl ([.int (nI g)]) ++ List.replicate (1 - (lg_sl ([.int (nI g)])).length) Slot.unset).toArray = ls at hl ⊢
  have hl : lv_has ls 1 [(0, .int (nI g))] := hl
  refine lv_iload_n hx hb dL_timesIn_0 rfl (lv_at hl 0 rfl) ?_
  refine lv_sipush (v := nI 4096) hx hb dL_timesIn_1 (by decide +kernel) ?_
  refine lv_irem hx hb dL_timesIn_4 (by decide +kernel) ?_
  refine lv_topi (fun z1 ez1 => ?_)
  obtain rfl : z1 = nI (g % 4096) := by rw [ez1]; exact pk_rem hg (by omega) (by omega)
  exact W.iret (v := (nI (g % 4096))) hx hb hr (fun t ht hW => ⟨(nI (g % 4096)), rfl, rfl, ht⟩) (fun q h => nomatch h) dL_timesIn_5

set_option maxHeartbeats 4000000 in
set_option maxRecDepth 100000 in
theorem c_T_size (l : Launch) (D : va_G) (cI cO cJ : ClassId) (N : Nat) (ad : Nat → Nat) (ce : Nat → va_E) (hN : 33 ≤ N) (os : Nat → Nat → Nat) (n : Nat) (hT : TR cI cO ad ce os n)  : Met l yT_size (.code yT_size bT_size 1 (some .int) :: WA) ({ frames := 0, cells := 0, slots := 0, locals := 0 }) (PR D (TY cI cO cJ) N ad ce [.ref (ad 2)]) (vp_Si (fun r => r = nI n)) 0 0 (fun _ => False) := by
  refine Met.ofW (cc := bT_size) (maxL := 1) (ret := (some .int)) (by decide) rfl ?_
  intro p e s m args below meth c s₁ B hml hv
  obtain ⟨rfl, hP, hK⟩ := hv
  have hx := B.exec
  have hb := B.bytes
  have hr := B.returns
  have hA9 : ∀ w ∈ WA, w.before _ s = true := fun w h => atoms_spec (ws := .code yT_size bT_size 1 (some .int) :: WA) B.pre w (List.mem_cons_of_mem _ h)
  have hown : s.vm.findClass RT = some m.cls := findClass_of_methodNamed B.named
  have hlocks := B.notSynchronized
  have hl := lv_entry ([.ref (ad 2)]) (n := 1) (Nat.le_of_ble_eq_true rfl)
  rw [lg_entry_eq]
  generalize (lg_sl ([.ref (ad 2)]) ++ List.replicate (1 - (lg_sl ([.ref (ad 2)])).length) Slot.unset).toArray = ls at hl ⊢
  have hl : lv_has ls 1 [(0, .ref (ad 2))] := hl
  obtain ⟨t2, ⟨lv, t3, tlv⟩, tL, hn⟩ := id hT
  refine lv_aload_n hx hb dT_size_0 rfl (lv_at hl 0 rfl) ?_
  refine va_get (D := D) (ci := 1) (v := .int (nI n)) (C := RT) (T := TT) (N := 4) hx hb hA9 inT hown hK hP 2 (wx_at (by omega) t2) rfl 3 (by decide) (hA9 _ mfT_25) (fun _ h9 => h9) rfl dT_size_1 ?_
  exact W.iret (v := (nI n)) hx hb hr (fun t ht hW => ⟨(nI n), rfl, rfl, ht⟩) (fun q h => nomatch h) dT_size_4

set_option maxHeartbeats 4000000 in
set_option maxRecDepth 100000 in
theorem c_T_bottomOf (l : Launch) (D : va_G) (cI cO cJ : ClassId) (N : Nat) (ad : Nat → Nat) (ce : Nat → va_E) (hN : 33 ≤ N) (os : Nat → Nat → Nat) (n : Nat) (hT : TR cI cO ad ce os n) (x : Nat) (hx5 : x < 512) (i : Nat) (hi : i ≤ n) : Met l yT_bottomOf (.code yT_bottomOf bT_bottomOf 5 (some .int) :: WA) ({ frames := 3, cells := 0, slots := 0, locals := 65 }) (PR D (TY cI cO cJ) N ad ce [.ref (ad 2), .int (nI x), .int (nI i)]) (vp_Si (fun r => r = nI (pq os n 9 x i))) 0 0 (fun _ => False) := by
  refine Met.ofW (cc := bT_bottomOf) (maxL := 5) (ret := (some .int)) (by decide) rfl ?_
  intro p e s m args below meth c s₁ B hml hv
  obtain ⟨rfl, hP, hK⟩ := hv
  have hx := B.exec
  have hb := B.bytes
  have hr := B.returns
  have hA9 : ∀ w ∈ WA, w.before _ s = true := fun w h => atoms_spec (ws := .code yT_bottomOf bT_bottomOf 5 (some .int) :: WA) B.pre w (List.mem_cons_of_mem _ h)
  have hown : s.vm.findClass RT = some m.cls := findClass_of_methodNamed B.named
  have hlocks := B.notSynchronized
  have hl := lv_entry ([.ref (ad 2), .int (nI x), .int (nI i)]) (n := 5) (Nat.le_of_ble_eq_true rfl)
  rw [lg_entry_eq]
  generalize (lg_sl ([.ref (ad 2), .int (nI x), .int (nI i)]) ++ List.replicate (5 - (lg_sl ([.ref (ad 2), .int (nI x), .int (nI i)])).length) Slot.unset).toArray = ls at hl ⊢
  have hl : lv_has ls 5 [(0, .ref (ad 2)), (1, .int (nI x)), (2, .int (nI i))] := hl
  obtain ⟨t2, ⟨lv, t3, tlv⟩, tL, hn⟩ := id hT
  refine lv_iload_n hx hb dT_bottomOf_0 rfl (lv_at hl 2 rfl) ?_
  refine lv_istore_n (lv' := [(3, .int (nI i)), (0, .ref (ad 2)), (1, .int (nI x)), (2, .int (nI i))]) hx hb dT_bottomOf_1 rfl hl (by decide) rfl (fun ls hl => ?_)
  refine lv_iconst (v := nI 0) hx hb dT_bottomOf_2 (by decide +kernel) ?_
  refine lv_istore (lv' := [(4, .int (nI 0)), (3, .int (nI i)), (0, .ref (ad 2)), (1, .int (nI x)), (2, .int (nI i))]) hx hb dT_bottomOf_3 hl (by decide) rfl (fun ls hl => ?_)
  obtain ⟨d, hd0⟩ : ∃ z : Nat, (0) = z := ⟨_, rfl⟩
  replace hl : lv_has ls 5 [(4, .int (nI d)), (3, .int (nI (pq os n d (tp d x) i))), (0, .ref (ad 2)), (1, .int (nI x)), (2, .int (nI i))] := by subst hd0; exact lv_sub hl [0, 1, 2, 3, 4] rfl
  have J : d ≤ 9 := by subst hd0; omega
  clear hd0
  obtain ⟨k9, hk9⟩ : ∃ z9 : Nat, z9 = 9 - d := ⟨_, rfl⟩
  induction k9 using Nat.strongRecOn generalizing d ls with
  | ind k9 ih =>
    refine lv_iload hx hb dT_bottomOf_5 (lv_at hl 0 rfl) ?_
    refine lv_bipush (v := nI 9) hx hb dT_bottomOf_7 (by decide +kernel) ?_
    refine lv_icmp_ge (tgt := 39) hx hb dT_bottomOf_9 (by decide) (fun c9 => ?_) (fun c9 => ?_)
    · skip
      have d1 := leN c9
      have hd9 : d = 9 := by omega
      refine lv_iload_n hx hb dT_bottomOf_39 rfl (lv_at hl 1 rfl) ?_
      exact W.iret (v := (nI (pq os n d (tp d x) i))) hx hb hr (fun t ht hW => ⟨(nI (pq os n d (tp d x) i)), rfl, by rw [hd9, tp_9], ht⟩) (fun q h => nomatch h) dT_bottomOf_40
    · skip
      have d1 := nleN c9
      refine lv_aload_n hx hb dT_bottomOf_12 rfl (lv_at hl 2 rfl) ?_
      refine va_get (D := D) (ci := 1) (v := .ref (ad 3)) (C := RT) (T := TT) (N := 4) hx hb hA9 inT hown hK hP 2 (wx_at (by omega) t2) rfl 0 (by decide) (hA9 _ mfT_11) (fun _ h9 => h9) rfl dT_bottomOf_13 ?_
      refine lv_iload hx hb dT_bottomOf_16 (lv_at hl 0 rfl) ?_
      refine va_aldq (C := RV) hx hb hK hP 3 1 (wx_at (by omega) t3) rfl (inN) dT_bottomOf_18 ?_
      refine W.eq (g2 := F0 m 19 ls [.ref (ad (6 + 3 * d))]) (by rw [clN, tlv d (by omega)]; rfl) ?_
      refine lv_iload_n hx hb dT_bottomOf_19 rfl (lv_at hl 3 rfl) ?_
      refine lv_iload hx hb dT_bottomOf_20 (lv_at hl 0 rfl) ?_
      refine vp_callSi (va_runS (As := [.int (nI d)]) (rest := [.int (nI x), .ref (ad (6 + 3 * d))]) ⟨hx, hb, hml, hown, hA9⟩ (c_T_shiftOf l d (by omega)) (va_cwS 1 hA9 (gS mlT_35 mtT_shiftOf mn_T mkT_shiftOf) rfl rfl rfl (by decide +kernel) ⟨Nat.le_of_ble_eq_true rfl, Nat.le_of_ble_eq_true rfl⟩) ⟨P0_bl, P0_mk⟩ rfl rfl hl.1 rfl (lv_room (Nat.le_of_ble_eq_true rfl)) dT_bottomOf_22 ⟨Nat.le_of_ble_eq_true rfl, Nat.le_of_ble_eq_true rfl⟩).run (fun r1 hr1 => ?_)
      obtain rfl : r1 = nI (8 - d) := hr1
      refine lv_ishr hx hb dT_bottomOf_25 ?_
      refine lv_iconst (v := nI 1) hx hb dT_bottomOf_26 (by decide +kernel) ?_
      refine lv_iand hx hb dT_bottomOf_27 ?_
      refine lv_topi (fun z2 ez2 => ?_)
      obtain rfl : z2 = nI (bN (tb x (8 - d))) := by rw [ez2]; exact sh1 (by omega) (by omega)
      refine lv_iload_n hx hb dT_bottomOf_28 rfl (lv_at hl 1 rfl) ?_
      refine vp_callSi (va_runV (As := [.int (nI (bN (tb x (8 - d)))), .int (nI (pq os n d (tp d x) i))]) (rest := []) ⟨hx, hb, hml, hown, hA9⟩ (c_V_down l D cI cO cJ N ad ce (6 + 3 * d) (by omega) (bs os n d) n (tL d (by omega)) (tb x (8 - d)) (pq os n d (tp d x) i) (pq_le os d _ hi)) (cwV 2 hA9 (gV mlT_50 miV_down msV_down mn_V mkV_down) rfl rfl rfl (by decide +kernel) ⟨Nat.le_of_ble_eq_true rfl, Nat.le_of_ble_eq_true rfl⟩) ⟨PR_bl, wx_recv hK hP (by omega) (tL d (by omega)).o rfl, PR_mk hK hP⟩ rfl rfl hl.1 rfl (lv_room (Nat.le_of_ble_eq_true rfl)) dT_bottomOf_29 ⟨Nat.le_of_ble_eq_true rfl, Nat.le_of_ble_eq_true rfl⟩).run (fun r3 hr3 => ?_)
      obtain rfl : r3 = nI (pq os n (d + 1) (tp (d + 1) x) i) := hr3.trans (by rw [pq_x (by omega)])
      refine lv_istore_n (lv' := [(3, .int (nI (pq os n (d + 1) (tp (d + 1) x) i))), (4, .int (nI d)), (0, .ref (ad 2)), (1, .int (nI x)), (2, .int (nI i))]) hx hb dT_bottomOf_32 rfl hl (by decide) rfl (fun ls hl => ?_)
      refine lv_iinc (v := nI (d + 1)) (lv' := [(4, .int (nI (d + 1))), (3, .int (nI (pq os n (d + 1) (tp (d + 1) x) i))), (0, .ref (ad 2)), (1, .int (nI x)), (2, .int (nI i))]) hx hb dT_bottomOf_33 hl (k := 1) rfl (nI_1 d) (by decide) rfl (fun ls hl => ?_)
      refine lv_goto (tgt := 5) hx hb dT_bottomOf_36 (by decide) ?_
      exact ih _ (by omega) (ls := ls) (d := d + 1) (lv_sub hl [0, 1, 2, 3, 4] rfl) (by omega) rfl

set_option maxHeartbeats 4000000 in
set_option maxRecDepth 100000 in
theorem c_T_timesOf (l : Launch) (D : va_G) (cI cO cJ : ClassId) (N : Nat) (ad : Nat → Nat) (ce : Nat → va_E) (hN : 33 ≤ N) (os : Nat → Nat → Nat) (n : Nat) (hT : TR cI cO ad ce os n) (f : Nat → Nat) (hW : WM f n os) (hf : ∀ i, i < n → f i < 512) (x : Nat) (hx5 : x < 512) (u v : Nat) (huv : u ≤ v) (hv : v ≤ n) : Met l yT_timesOf (.code yT_timesOf bT_timesOf 4 (some .int) :: WA) ({ frames := 4, cells := 0, slots := 0, locals := 89 }) (PR D (TY cI cO cJ) N ad ce [.ref (ad 2), .int (nI x), .int (nI u), .int (nI v)]) (vp_Si (fun r => r = nI (eq f x u v))) 0 0 (fun _ => False) := by
  refine Met.ofW (cc := bT_timesOf) (maxL := 4) (ret := (some .int)) (by decide) rfl ?_
  intro p e s m args below meth c s₁ B hml hv
  obtain ⟨rfl, hP, hK⟩ := hv
  have hx := B.exec
  have hb := B.bytes
  have hr := B.returns
  have hA9 : ∀ w ∈ WA, w.before _ s = true := fun w h => atoms_spec (ws := .code yT_timesOf bT_timesOf 4 (some .int) :: WA) B.pre w (List.mem_cons_of_mem _ h)
  have hown : s.vm.findClass RT = some m.cls := findClass_of_methodNamed B.named
  have hlocks := B.notSynchronized
  have hl := lv_entry ([.ref (ad 2), .int (nI x), .int (nI u), .int (nI v)]) (n := 4) (Nat.le_of_ble_eq_true rfl)
  rw [lg_entry_eq]
  generalize (lg_sl ([.ref (ad 2), .int (nI x), .int (nI u), .int (nI v)]) ++ List.replicate (4 - (lg_sl ([.ref (ad 2), .int (nI x), .int (nI u), .int (nI v)])).length) Slot.unset).toArray = ls at hl ⊢
  have hl : lv_has ls 4 [(0, .ref (ad 2)), (1, .int (nI x)), (2, .int (nI u)), (3, .int (nI v))] := hl
  obtain ⟨t2, ⟨lv, t3, tlv⟩, tL, hn⟩ := id hT
  refine lv_aload_n hx hb dT_timesOf_0 rfl (lv_at hl 0 rfl) ?_
  refine lv_iload_n hx hb dT_timesOf_1 rfl (lv_at hl 1 rfl) ?_
  refine lv_iload_n hx hb dT_timesOf_2 rfl (lv_at hl 3 rfl) ?_
  refine vp_callSi (va_runV (As := [.int (nI x), .int (nI v)]) (rest := []) ⟨hx, hb, hml, hown, hA9⟩ (c_T_bottomOf l D cI cO cJ N ad ce hN os n hT x hx5 v (hv)) (cwV 2 hA9 (gV mlT_54 miT_bottomOf msT_bottomOf mn_T mkT_bottomOf) rfl rfl rfl (by decide +kernel) ⟨Nat.le_of_ble_eq_true rfl, Nat.le_of_ble_eq_true rfl⟩) ⟨PR_bl, wx_recv hK hP (by omega) t2 rfl, PR_mk hK hP⟩ rfl rfl hl.1 rfl (lv_room (Nat.le_of_ble_eq_true rfl)) dT_timesOf_3 ⟨Nat.le_of_ble_eq_true rfl, Nat.le_of_ble_eq_true rfl⟩).run (fun r1 hr1 => ?_)
  obtain rfl : r1 = nI (pq os n 9 x v) := hr1
  refine lv_aload_n hx hb dT_timesOf_6 rfl (lv_at hl 0 rfl) ?_
  refine lv_iload_n hx hb dT_timesOf_7 rfl (lv_at hl 1 rfl) ?_
  refine lv_iload_n hx hb dT_timesOf_8 rfl (lv_at hl 2 rfl) ?_
  refine vp_callSi (va_runV (As := [.int (nI x), .int (nI u)]) (rest := [.int (nI (pq os n 9 x v))]) ⟨hx, hb, hml, hown, hA9⟩ (c_T_bottomOf l D cI cO cJ N ad ce hN os n hT x hx5 u (by omega)) (cwV 2 hA9 (gV mlT_54 miT_bottomOf msT_bottomOf mn_T mkT_bottomOf) rfl rfl rfl (by decide +kernel) ⟨Nat.le_of_ble_eq_true rfl, Nat.le_of_ble_eq_true rfl⟩) ⟨PR_bl, wx_recv hK hP (by omega) t2 rfl, PR_mk hK hP⟩ rfl rfl hl.1 rfl (lv_room (Nat.le_of_ble_eq_true rfl)) dT_timesOf_9 ⟨Nat.le_of_ble_eq_true rfl, Nat.le_of_ble_eq_true rfl⟩).run (fun r2 hr2 => ?_)
  obtain rfl : r2 = nI (pq os n 9 x u) := hr2
  refine lv_isub hx hb dT_timesOf_12 ?_
  refine lv_topi (fun z3 ez3 => ?_)
  obtain rfl : z3 = nI (eq f x u v) := by rw [ez3]; rw [pk_sub (pq_mono _ _ _ _ huv), pq_9 hW hf hx5 huv hv]
  exact W.iret (v := (nI (eq f x u v))) hx hb hr (fun t ht hW => ⟨(nI (eq f x u v)), rfl, rfl, ht⟩) (fun q h => nomatch h) dT_timesOf_13

set_option maxHeartbeats 4000000 in
set_option maxRecDepth 100000 in
theorem c_T_numberAt (l : Launch) (D : va_G) (cI cO cJ : ClassId) (N : Nat) (ad : Nat → Nat) (ce : Nat → va_E) (hN : 33 ≤ N) (os : Nat → Nat → Nat) (n : Nat) (hT : TR cI cO ad ce os n) (f : Nat → Nat) (hW : WM f n os) (hf : ∀ i, i < n → f i < 512) (i : Nat) (hi : i < n) : Met l yT_numberAt (.code yT_numberAt bT_numberAt 6 (some .int) :: WA) ({ frames := 3, cells := 0, slots := 0, locals := 65 }) (PR D (TY cI cO cJ) N ad ce [.ref (ad 2), .int (nI i)]) (vp_Si (fun r => r = nI (f i))) 0 0 (fun _ => False) := by
  refine Met.ofW (cc := bT_numberAt) (maxL := 6) (ret := (some .int)) (by decide) rfl ?_
  intro p e s m args below meth c s₁ B hml hv
  obtain ⟨rfl, hP, hK⟩ := hv
  have hx := B.exec
  have hb := B.bytes
  have hr := B.returns
  have hA9 : ∀ w ∈ WA, w.before _ s = true := fun w h => atoms_spec (ws := .code yT_numberAt bT_numberAt 6 (some .int) :: WA) B.pre w (List.mem_cons_of_mem _ h)
  have hown : s.vm.findClass RT = some m.cls := findClass_of_methodNamed B.named
  have hlocks := B.notSynchronized
  have hl := lv_entry ([.ref (ad 2), .int (nI i)]) (n := 6) (Nat.le_of_ble_eq_true rfl)
  rw [lg_entry_eq]
  generalize (lg_sl ([.ref (ad 2), .int (nI i)]) ++ List.replicate (6 - (lg_sl ([.ref (ad 2), .int (nI i)])).length) Slot.unset).toArray = ls at hl ⊢
  have hl : lv_has ls 6 [(0, .ref (ad 2)), (1, .int (nI i))] := hl
  obtain ⟨t2, ⟨lv, t3, tlv⟩, tL, hn⟩ := id hT
  refine lv_iconst (v := nI 0) hx hb dT_numberAt_0 (by decide +kernel) ?_
  refine lv_istore_n (lv' := [(2, .int (nI 0)), (0, .ref (ad 2)), (1, .int (nI i))]) hx hb dT_numberAt_1 rfl hl (by decide) rfl (fun ls hl => ?_)
  refine lv_iload_n hx hb dT_numberAt_2 rfl (lv_at hl 2 rfl) ?_
  refine lv_istore_n (lv' := [(3, .int (nI i)), (2, .int (nI 0)), (0, .ref (ad 2)), (1, .int (nI i))]) hx hb dT_numberAt_3 rfl hl (by decide) rfl (fun ls hl => ?_)
  refine lv_iconst (v := nI 0) hx hb dT_numberAt_4 (by decide +kernel) ?_
  refine lv_istore (lv' := [(4, .int (nI 0)), (3, .int (nI i)), (2, .int (nI 0)), (0, .ref (ad 2)), (1, .int (nI i))]) hx hb dT_numberAt_5 hl (by decide) rfl (fun ls hl => ?_)
  obtain ⟨d, hd0⟩ : ∃ z : Nat, (0) = z := ⟨_, rfl⟩
  replace hl : lv_has ls 6 [(4, .int (nI d)), (3, .int (nI (pq os n d (tp d (f i)) i))), (2, .int (nI (tp d (f i)))), (0, .ref (ad 2)), (1, .int (nI i))] := by subst hd0; rw [tp_0 (hf i hi)]; exact lv_sub hl [0, 1, 2, 3, 4] rfl
  have J : d ≤ 9 := by subst hd0; omega
  clear hd0
  obtain ⟨k9, hk9⟩ : ∃ z9 : Nat, z9 = 9 - d := ⟨_, rfl⟩
  induction k9 using Nat.strongRecOn generalizing d ls with
  | ind k9 ih =>
    refine lv_iload hx hb dT_numberAt_7 (lv_at hl 0 rfl) ?_
    refine lv_bipush (v := nI 9) hx hb dT_numberAt_9 (by decide +kernel) ?_
    refine lv_icmp_ge (tgt := 54) hx hb dT_numberAt_11 (by decide) (fun c11 => ?_) (fun c11 => ?_)
    · skip
      have d1 := leN c11
      have hd9 : d = 9 := by omega
      refine lv_iload_n hx hb dT_numberAt_54 rfl (lv_at hl 2 rfl) ?_
      exact W.iret (v := (nI (tp d (f i)))) hx hb hr (fun t ht hW => ⟨(nI (tp d (f i))), rfl, by rw [hd9, tp_9], ht⟩) (fun q h => nomatch h) dT_numberAt_55
    · skip
      have d1 := nleN c11
      obtain ⟨ba, bb⟩ := bs_at hW hf (show d ≤ 9 by omega) hi
      refine lv_aload_n hx hb dT_numberAt_14 rfl (lv_at hl 3 rfl) ?_
      refine va_get (D := D) (ci := 1) (v := .ref (ad 3)) (C := RT) (T := TT) (N := 4) hx hb hA9 inT hown hK hP 2 (wx_at (by omega) t2) rfl 0 (by decide) (hA9 _ mfT_11) (fun _ h9 => h9) rfl dT_numberAt_15 ?_
      refine lv_iload hx hb dT_numberAt_18 (lv_at hl 0 rfl) ?_
      refine va_aldq (C := RV) hx hb hK hP 3 1 (wx_at (by omega) t3) rfl (inN) dT_numberAt_20 ?_
      refine W.eq (g2 := F0 m 21 ls [.ref (ad (6 + 3 * d))]) (by rw [clN, tlv d (by omega)]; rfl) ?_
      refine lv_iload_n hx hb dT_numberAt_21 rfl (lv_at hl 1 rfl) ?_
      refine vp_callSi (va_runV (As := [.int (nI (pq os n d (tp d (f i)) i))]) (rest := []) ⟨hx, hb, hml, hown, hA9⟩ (c_V_bitAt l D cI cO cJ N ad ce (6 + 3 * d) (by omega) (bs os n d) n (tL d (by omega)) (pq os n d (tp d (f i)) i) ba) (cwV 1 hA9 (gV mlT_47 miV_bitAt msV_bitAt mn_V mkV_bitAt) rfl rfl rfl (by decide +kernel) ⟨Nat.le_of_ble_eq_true rfl, Nat.le_of_ble_eq_true rfl⟩) ⟨PR_bl, wx_recv hK hP (by omega) (tL d (by omega)).o rfl, PR_mk hK hP⟩ rfl rfl hl.1 rfl (lv_room (Nat.le_of_ble_eq_true rfl)) dT_numberAt_22 ⟨Nat.le_of_ble_eq_true rfl, Nat.le_of_ble_eq_true rfl⟩).run (fun r1 hr1 => ?_)
      obtain rfl : r1 = nI (bN (tb (f i) (8 - d))) := hr1.trans (by rw [bb])
      refine lv_istore (lv' := [(5, .int (nI (bN (tb (f i) (8 - d))))), (4, .int (nI d)), (3, .int (nI (pq os n d (tp d (f i)) i))), (2, .int (nI (tp d (f i)))), (0, .ref (ad 2)), (1, .int (nI i))]) hx hb dT_numberAt_25 hl (by decide) rfl (fun ls hl => ?_)
      refine lv_iload_n hx hb dT_numberAt_27 rfl (lv_at hl 3 rfl) ?_
      refine lv_iconst (v := nI 2) hx hb dT_numberAt_28 (by decide +kernel) ?_
      refine lv_imul hx hb dT_numberAt_29 ?_
      refine lv_iload hx hb dT_numberAt_30 (lv_at hl 0 rfl) ?_
      refine lv_iadd hx hb dT_numberAt_32 ?_
      refine lv_topi (fun z2 ez2 => ?_)
      obtain rfl : z2 = nI (tp (d + 1) (f i)) := by rw [ez2]; rw [pk_mul, nI_add, tp_s (by omega), Nat.mul_comm]
      refine lv_istore_n (lv' := [(2, .int (nI (tp (d + 1) (f i)))), (5, .int (nI (bN (tb (f i) (8 - d))))), (4, .int (nI d)), (3, .int (nI (pq os n d (tp d (f i)) i))), (0, .ref (ad 2)), (1, .int (nI i))]) hx hb dT_numberAt_33 rfl hl (by decide) rfl (fun ls hl => ?_)
      refine lv_aload_n hx hb dT_numberAt_34 rfl (lv_at hl 4 rfl) ?_
      refine va_get (D := D) (ci := 1) (v := .ref (ad 3)) (C := RT) (T := TT) (N := 4) hx hb hA9 inT hown hK hP 2 (wx_at (by omega) t2) rfl 0 (by decide) (hA9 _ mfT_11) (fun _ h9 => h9) rfl dT_numberAt_35 ?_
      refine lv_iload hx hb dT_numberAt_38 (lv_at hl 2 rfl) ?_
      refine va_aldq (C := RV) hx hb hK hP 3 1 (wx_at (by omega) t3) rfl (inN) dT_numberAt_40 ?_
      refine W.eq (g2 := F0 m 41 ls [.ref (ad (6 + 3 * d))]) (by rw [clN, tlv d (by omega)]; rfl) ?_
      refine lv_iload hx hb dT_numberAt_41 (lv_at hl 1 rfl) ?_
      refine lv_iload_n hx hb dT_numberAt_43 rfl (lv_at hl 3 rfl) ?_
      refine vp_callSi (va_runV (As := [.int (nI (bN (tb (f i) (8 - d)))), .int (nI (pq os n d (tp d (f i)) i))]) (rest := []) ⟨hx, hb, hml, hown, hA9⟩ (c_V_down l D cI cO cJ N ad ce (6 + 3 * d) (by omega) (bs os n d) n (tL d (by omega)) (tb (f i) (8 - d)) (pq os n d (tp d (f i)) i) (pq_le os d _ (by omega))) (cwV 2 hA9 (gV mlT_50 miV_down msV_down mn_V mkV_down) rfl rfl rfl (by decide +kernel) ⟨Nat.le_of_ble_eq_true rfl, Nat.le_of_ble_eq_true rfl⟩) ⟨PR_bl, wx_recv hK hP (by omega) (tL d (by omega)).o rfl, PR_mk hK hP⟩ rfl rfl hl.1 rfl (lv_room (Nat.le_of_ble_eq_true rfl)) dT_numberAt_44 ⟨Nat.le_of_ble_eq_true rfl, Nat.le_of_ble_eq_true rfl⟩).run (fun r3 hr3 => ?_)
      obtain rfl : r3 = nI (pq os n (d + 1) (tp (d + 1) (f i)) i) := hr3.trans (by rw [pq_x (by omega)])
      refine lv_istore_n (lv' := [(3, .int (nI (pq os n (d + 1) (tp (d + 1) (f i)) i))), (2, .int (nI (tp (d + 1) (f i)))), (5, .int (nI (bN (tb (f i) (8 - d))))), (4, .int (nI d)), (0, .ref (ad 2)), (1, .int (nI i))]) hx hb dT_numberAt_47 rfl hl (by decide) rfl (fun ls hl => ?_)
      refine lv_iinc (v := nI (d + 1)) (lv' := [(4, .int (nI (d + 1))), (3, .int (nI (pq os n (d + 1) (tp (d + 1) (f i)) i))), (2, .int (nI (tp (d + 1) (f i)))), (5, .int (nI (bN (tb (f i) (8 - d))))), (0, .ref (ad 2)), (1, .int (nI i))]) hx hb dT_numberAt_48 hl (k := 3) rfl (nI_1 d) (by decide) rfl (fun ls hl => ?_)
      refine lv_goto (tgt := 7) hx hb dT_numberAt_51 (by decide) ?_
      exact ih _ (by omega) (ls := ls) (d := d + 1) (lv_sub hl [0, 1, 2, 4, 5] rfl) (by omega) rfl

set_option maxHeartbeats 4000000 in
set_option maxRecDepth 100000 in
theorem c_T_countBelow (l : Launch) (D : va_G) (cI cO cJ : ClassId) (N : Nat) (ad : Nat → Nat) (ce : Nat → va_E) (hN : 33 ≤ N) (os : Nat → Nat → Nat) (n : Nat) (hT : TR cI cO ad ce os n) (f : Nat → Nat) (hW : WM f n os) (hf : ∀ i, i < n → f i < 512) (x : Nat) (hx5 : x ≤ 512) (u v : Nat) (huv : u ≤ v) (hv : v ≤ n) : Met l yT_countBelow (.code yT_countBelow bT_countBelow 10 (some .int) :: WA) ({ frames := 3, cells := 0, slots := 0, locals := 65 }) (PR D (TY cI cO cJ) N ad ce [.ref (ad 2), .int (nI x), .int (nI u), .int (nI v)]) (vp_Si (fun r => r = nI (lq f x u v))) 0 0 (fun _ => False) := by
  refine Met.ofW (cc := bT_countBelow) (maxL := 10) (ret := (some .int)) (by decide) rfl ?_
  intro p e s m args below meth c s₁ B hml hv
  obtain ⟨rfl, hP, hK⟩ := hv
  have hx := B.exec
  have hb := B.bytes
  have hr := B.returns
  have hA9 : ∀ w ∈ WA, w.before _ s = true := fun w h => atoms_spec (ws := .code yT_countBelow bT_countBelow 10 (some .int) :: WA) B.pre w (List.mem_cons_of_mem _ h)
  have hown : s.vm.findClass RT = some m.cls := findClass_of_methodNamed B.named
  have hlocks := B.notSynchronized
  have hl := lv_entry ([.ref (ad 2), .int (nI x), .int (nI u), .int (nI v)]) (n := 10) (Nat.le_of_ble_eq_true rfl)
  rw [lg_entry_eq]
  generalize (lg_sl ([.ref (ad 2), .int (nI x), .int (nI u), .int (nI v)]) ++ List.replicate (10 - (lg_sl ([.ref (ad 2), .int (nI x), .int (nI u), .int (nI v)])).length) Slot.unset).toArray = ls at hl ⊢
  have hl : lv_has ls 10 [(0, .ref (ad 2)), (1, .int (nI x)), (2, .int (nI u)), (3, .int (nI v))] := hl
  obtain ⟨t2, ⟨lv, t3, tlv⟩, tL, hn⟩ := id hT
  refine lv_iload_n hx hb dT_countBelow_0 rfl (lv_at hl 1 rfl) ?_
  refine lv_sipush (v := nI 512) hx hb dT_countBelow_1 (by decide +kernel) ?_
  refine lv_icmp_lt (tgt := 11) hx hb dT_countBelow_4 (by decide) (fun c4 => ?_) (fun c4 => ?_)
  · skip
    have d0 := ltN c4
    refine lv_iconst (v := nI 0) hx hb dT_countBelow_11 (by decide +kernel) ?_
    refine lv_istore (lv' := [(4, .int (nI 0)), (0, .ref (ad 2)), (1, .int (nI x)), (2, .int (nI u)), (3, .int (nI v))]) hx hb dT_countBelow_12 hl (by decide) rfl (fun ls hl => ?_)
    refine lv_iload_n hx hb dT_countBelow_14 rfl (lv_at hl 3 rfl) ?_
    refine lv_istore (lv' := [(5, .int (nI u)), (4, .int (nI 0)), (0, .ref (ad 2)), (1, .int (nI x)), (2, .int (nI u)), (3, .int (nI v))]) hx hb dT_countBelow_15 hl (by decide) rfl (fun ls hl => ?_)
    refine lv_iload_n hx hb dT_countBelow_17 rfl (lv_at hl 5 rfl) ?_
    refine lv_istore (lv' := [(6, .int (nI v)), (5, .int (nI u)), (4, .int (nI 0)), (0, .ref (ad 2)), (1, .int (nI x)), (2, .int (nI u)), (3, .int (nI v))]) hx hb dT_countBelow_18 hl (by decide) rfl (fun ls hl => ?_)
    refine lv_iconst (v := nI 0) hx hb dT_countBelow_20 (by decide +kernel) ?_
    refine lv_istore (lv' := [(7, .int (nI 0)), (6, .int (nI v)), (5, .int (nI u)), (4, .int (nI 0)), (0, .ref (ad 2)), (1, .int (nI x)), (2, .int (nI u)), (3, .int (nI v))]) hx hb dT_countBelow_21 hl (by decide) rfl (fun ls hl => ?_)
    obtain ⟨d, hd0⟩ : ∃ z : Nat, (0) = z := ⟨_, rfl⟩
    replace hl : lv_has ls 10 [(7, .int (nI d)), (6, .int (nI (pq os n d (tp d x) v))), (5, .int (nI (pq os n d (tp d x) u))), (4, .int (nI (bl f x u v d))), (0, .ref (ad 2)), (1, .int (nI x)), (2, .int (nI u)), (3, .int (nI v))] := by subst hd0; rw [bl_0 hf d0 huv hv]; exact lv_sub hl [0, 1, 2, 3, 4, 5, 6, 7] rfl
    have J : d ≤ 9 := by subst hd0; omega
    clear hd0
    obtain ⟨k9, hk9⟩ : ∃ z9 : Nat, z9 = 9 - d := ⟨_, rfl⟩
    induction k9 using Nat.strongRecOn generalizing d ls with
    | ind k9 ih =>
      refine lv_iload hx hb dT_countBelow_23 (lv_at hl 0 rfl) ?_
      refine lv_bipush (v := nI 9) hx hb dT_countBelow_25 (by decide +kernel) ?_
      refine lv_icmp_ge (tgt := 106) hx hb dT_countBelow_27 (by decide) (fun c27 => ?_) (fun c27 => ?_)
      · skip
        have d1 := leN c27
        have hd9 : d = 9 := by omega
        refine lv_iload hx hb dT_countBelow_106 (lv_at hl 3 rfl) ?_
        exact W.iret (v := (nI (bl f x u v d))) hx hb hr (fun t ht hW => ⟨(nI (bl f x u v d)), rfl, by rw [hd9, bl_9], ht⟩) (fun q h => nomatch h) dT_countBelow_108
      · skip
        have d1 := nleN c27
        refine lv_aload_n hx hb dT_countBelow_30 rfl (lv_at hl 4 rfl) ?_
        refine va_get (D := D) (ci := 1) (v := .ref (ad 3)) (C := RT) (T := TT) (N := 4) hx hb hA9 inT hown hK hP 2 (wx_at (by omega) t2) rfl 0 (by decide) (hA9 _ mfT_11) (fun _ h9 => h9) rfl dT_countBelow_31 ?_
        refine lv_iload hx hb dT_countBelow_34 (lv_at hl 0 rfl) ?_
        refine va_aldq (C := RV) hx hb hK hP 3 1 (wx_at (by omega) t3) rfl (inN) dT_countBelow_36 ?_
        refine W.eq (g2 := F0 m 37 ls [.ref (ad (6 + 3 * d))]) (by rw [clN, tlv d (by omega)]; rfl) ?_
        refine lv_astore (lv' := [(8, .ref (ad (6 + 3 * d))), (7, .int (nI d)), (6, .int (nI (pq os n d (tp d x) v))), (5, .int (nI (pq os n d (tp d x) u))), (4, .int (nI (bl f x u v d))), (0, .ref (ad 2)), (1, .int (nI x)), (2, .int (nI u)), (3, .int (nI v))]) hx hb dT_countBelow_37 hl (by decide) rfl (fun ls hl => ?_)
        refine lv_iload_n hx hb dT_countBelow_39 rfl (lv_at hl 6 rfl) ?_
        refine lv_iload hx hb dT_countBelow_40 (lv_at hl 1 rfl) ?_
        refine vp_callSi (va_runS (As := [.int (nI d)]) (rest := [.int (nI x)]) ⟨hx, hb, hml, hown, hA9⟩ (c_T_shiftOf l d (by omega)) (va_cwS 1 hA9 (gS mlT_35 mtT_shiftOf mn_T mkT_shiftOf) rfl rfl rfl (by decide +kernel) ⟨Nat.le_of_ble_eq_true rfl, Nat.le_of_ble_eq_true rfl⟩) ⟨P0_bl, P0_mk⟩ rfl rfl hl.1 rfl (lv_room (Nat.le_of_ble_eq_true rfl)) dT_countBelow_42 ⟨Nat.le_of_ble_eq_true rfl, Nat.le_of_ble_eq_true rfl⟩).run (fun r1 hr1 => ?_)
        obtain rfl : r1 = nI (8 - d) := hr1
        refine lv_ishr hx hb dT_countBelow_45 ?_
        refine lv_iconst (v := nI 1) hx hb dT_countBelow_46 (by decide +kernel) ?_
        refine lv_iand hx hb dT_countBelow_47 ?_
        refine lv_topi (fun z2 ez2 => ?_)
        obtain rfl : z2 = nI (bN (tb x (8 - d))) := by rw [ez2]; exact sh1 (by omega) (by omega)
        refine lv_istore (lv' := [(9, .int (nI (bN (tb x (8 - d))))), (8, .ref (ad (6 + 3 * d))), (7, .int (nI d)), (6, .int (nI (pq os n d (tp d x) v))), (5, .int (nI (pq os n d (tp d x) u))), (4, .int (nI (bl f x u v d))), (0, .ref (ad 2)), (1, .int (nI x)), (2, .int (nI u)), (3, .int (nI v))]) hx hb dT_countBelow_48 hl (by decide) rfl (fun ls hl => ?_)
        refine lv_iload hx hb dT_countBelow_50 (lv_at hl 0 rfl) ?_
        refine lv_iconst (v := nI 1) hx hb dT_countBelow_52 (by decide +kernel) ?_
        refine lv_icmp_ne (tgt := 78) hx hb dT_countBelow_53 (by decide) (fun c53 => ?_) (fun c53 => ?_)
        · skip
          have hxf := bx_f c53
          rw [← bl_z (f := f) (u := u) (v := v) (by omega) huv hxf] at hl
          refine lv_aload hx hb dT_countBelow_78 (lv_at hl 1 rfl) ?_
          refine lv_iload hx hb dT_countBelow_80 (lv_at hl 0 rfl) ?_
          refine lv_iload hx hb dT_countBelow_82 (lv_at hl 4 rfl) ?_
          refine vp_callSi (va_runV (As := [.int (nI (bN (tb x (8 - d)))), .int (nI (pq os n d (tp d x) u))]) (rest := []) ⟨hx, hb, hml, hown, hA9⟩ (c_V_down l D cI cO cJ N ad ce (6 + 3 * d) (by omega) (bs os n d) n (tL d (by omega)) (tb x (8 - d)) (pq os n d (tp d x) u) (pq_le os d _ (by omega))) (cwV 2 hA9 (gV mlT_50 miV_down msV_down mn_V mkV_down) rfl rfl rfl (by decide +kernel) ⟨Nat.le_of_ble_eq_true rfl, Nat.le_of_ble_eq_true rfl⟩) ⟨PR_bl, wx_recv hK hP (by omega) (tL d (by omega)).o rfl, PR_mk hK hP⟩ rfl rfl hl.1 rfl (lv_room (Nat.le_of_ble_eq_true rfl)) dT_countBelow_84 ⟨Nat.le_of_ble_eq_true rfl, Nat.le_of_ble_eq_true rfl⟩).run (fun r3 hr3 => ?_)
          obtain rfl : r3 = nI (pq os n (d + 1) (tp (d + 1) x) u) := hr3.trans (by rw [pq_x (by omega)])
          refine lv_istore (lv' := [(5, .int (nI (pq os n (d + 1) (tp (d + 1) x) u))), (9, .int (nI (bN (tb x (8 - d))))), (8, .ref (ad (6 + 3 * d))), (7, .int (nI d)), (6, .int (nI (pq os n d (tp d x) v))), (4, .int (nI (bl f x u v (d + 1)))), (0, .ref (ad 2)), (1, .int (nI x)), (2, .int (nI u)), (3, .int (nI v))]) hx hb dT_countBelow_87 hl (by decide) rfl (fun ls hl => ?_)
          refine lv_aload hx hb dT_countBelow_89 (lv_at hl 2 rfl) ?_
          refine lv_iload hx hb dT_countBelow_91 (lv_at hl 1 rfl) ?_
          refine lv_iload hx hb dT_countBelow_93 (lv_at hl 4 rfl) ?_
          refine vp_callSi (va_runV (As := [.int (nI (bN (tb x (8 - d)))), .int (nI (pq os n d (tp d x) v))]) (rest := []) ⟨hx, hb, hml, hown, hA9⟩ (c_V_down l D cI cO cJ N ad ce (6 + 3 * d) (by omega) (bs os n d) n (tL d (by omega)) (tb x (8 - d)) (pq os n d (tp d x) v) (pq_le os d _ hv)) (cwV 2 hA9 (gV mlT_50 miV_down msV_down mn_V mkV_down) rfl rfl rfl (by decide +kernel) ⟨Nat.le_of_ble_eq_true rfl, Nat.le_of_ble_eq_true rfl⟩) ⟨PR_bl, wx_recv hK hP (by omega) (tL d (by omega)).o rfl, PR_mk hK hP⟩ rfl rfl hl.1 rfl (lv_room (Nat.le_of_ble_eq_true rfl)) dT_countBelow_95 ⟨Nat.le_of_ble_eq_true rfl, Nat.le_of_ble_eq_true rfl⟩).run (fun r4 hr4 => ?_)
          obtain rfl : r4 = nI (pq os n (d + 1) (tp (d + 1) x) v) := hr4.trans (by rw [pq_x (by omega)])
          refine lv_istore (lv' := [(6, .int (nI (pq os n (d + 1) (tp (d + 1) x) v))), (5, .int (nI (pq os n (d + 1) (tp (d + 1) x) u))), (9, .int (nI (bN (tb x (8 - d))))), (8, .ref (ad (6 + 3 * d))), (7, .int (nI d)), (4, .int (nI (bl f x u v (d + 1)))), (0, .ref (ad 2)), (1, .int (nI x)), (2, .int (nI u)), (3, .int (nI v))]) hx hb dT_countBelow_98 hl (by decide) rfl (fun ls hl => ?_)
          refine lv_iinc (v := nI (d + 1)) (lv' := [(7, .int (nI (d + 1))), (6, .int (nI (pq os n (d + 1) (tp (d + 1) x) v))), (5, .int (nI (pq os n (d + 1) (tp (d + 1) x) u))), (9, .int (nI (bN (tb x (8 - d))))), (8, .ref (ad (6 + 3 * d))), (4, .int (nI (bl f x u v (d + 1)))), (0, .ref (ad 2)), (1, .int (nI x)), (2, .int (nI u)), (3, .int (nI v))]) hx hb dT_countBelow_100 hl (k := 4) rfl (nI_1 d) (by decide) rfl (fun ls hl => ?_)
          refine lv_goto (tgt := 23) hx hb dT_countBelow_103 (by decide) ?_
          exact ih _ (by omega) (ls := ls) (d := d + 1) (lv_sub hl [0, 1, 2, 5, 6, 7, 8, 9] rfl) (by omega) rfl
        · skip
          have hxt := bx_t c53
          refine lv_iload hx hb dT_countBelow_56 (lv_at hl 5 rfl) ?_
          refine lv_aload hx hb dT_countBelow_58 (lv_at hl 1 rfl) ?_
          refine lv_iconst (v := nI (bN false)) hx hb dT_countBelow_60 (by decide +kernel) ?_
          refine lv_iload hx hb dT_countBelow_61 (lv_at hl 3 rfl) ?_
          refine vp_callSi (va_runV (As := [.int (nI (bN false)), .int (nI (pq os n d (tp d x) v))]) (rest := [.int (nI (bl f x u v d))]) ⟨hx, hb, hml, hown, hA9⟩ (c_V_down l D cI cO cJ N ad ce (6 + 3 * d) (by omega) (bs os n d) n (tL d (by omega)) false (pq os n d (tp d x) v) (pq_le os d _ hv)) (cwV 2 hA9 (gV mlT_50 miV_down msV_down mn_V mkV_down) rfl rfl rfl (by decide +kernel) ⟨Nat.le_of_ble_eq_true rfl, Nat.le_of_ble_eq_true rfl⟩) ⟨PR_bl, wx_recv hK hP (by omega) (tL d (by omega)).o rfl, PR_mk hK hP⟩ rfl rfl hl.1 rfl (lv_room (Nat.le_of_ble_eq_true rfl)) dT_countBelow_63 ⟨Nat.le_of_ble_eq_true rfl, Nat.le_of_ble_eq_true rfl⟩).run (fun r5 hr5 => ?_)
          obtain rfl : r5 = nI (dn (bs os n d) n false (pq os n d (tp d x) v)) := hr5
          refine lv_aload hx hb dT_countBelow_66 (lv_at hl 1 rfl) ?_
          refine lv_iconst (v := nI (bN false)) hx hb dT_countBelow_68 (by decide +kernel) ?_
          refine lv_iload hx hb dT_countBelow_69 (lv_at hl 4 rfl) ?_
          refine vp_callSi (va_runV (As := [.int (nI (bN false)), .int (nI (pq os n d (tp d x) u))]) (rest := [.int (nI (dn (bs os n d) n false (pq os n d (tp d x) v))), .int (nI (bl f x u v d))]) ⟨hx, hb, hml, hown, hA9⟩ (c_V_down l D cI cO cJ N ad ce (6 + 3 * d) (by omega) (bs os n d) n (tL d (by omega)) false (pq os n d (tp d x) u) (pq_le os d _ (by omega))) (cwV 2 hA9 (gV mlT_50 miV_down msV_down mn_V mkV_down) rfl rfl rfl (by decide +kernel) ⟨Nat.le_of_ble_eq_true rfl, Nat.le_of_ble_eq_true rfl⟩) ⟨PR_bl, wx_recv hK hP (by omega) (tL d (by omega)).o rfl, PR_mk hK hP⟩ rfl rfl hl.1 rfl (lv_room (Nat.le_of_ble_eq_true rfl)) dT_countBelow_71 ⟨Nat.le_of_ble_eq_true rfl, Nat.le_of_ble_eq_true rfl⟩).run (fun r6 hr6 => ?_)
          obtain rfl : r6 = nI (dn (bs os n d) n false (pq os n d (tp d x) u)) := hr6
          refine lv_isub hx hb dT_countBelow_74 ?_
          refine lv_topi (fun z7 ez7 => ?_)
          obtain rfl : z7 = nI (ct (fun i => decide (tp (d + 1) (f i) = 2 * tp d x)) u v) := by rw [ez7]; rw [pk_sub (dn_mono _ _ _ (pq_mono _ _ _ _ huv)), zc hW hf (by omega) (tp_lt (by omega) d0) huv hv]
          refine lv_iadd hx hb dT_countBelow_75 ?_
          refine lv_topi (fun z8 ez8 => ?_)
          obtain rfl : z8 = nI (bl f x u v (d + 1)) := by rw [ez8]; rw [nI_add, bl_o (by omega) huv hxt]
          refine lv_istore (lv' := [(4, .int (nI (bl f x u v (d + 1)))), (9, .int (nI (bN (tb x (8 - d))))), (8, .ref (ad (6 + 3 * d))), (7, .int (nI d)), (6, .int (nI (pq os n d (tp d x) v))), (5, .int (nI (pq os n d (tp d x) u))), (0, .ref (ad 2)), (1, .int (nI x)), (2, .int (nI u)), (3, .int (nI v))]) hx hb dT_countBelow_76 hl (by decide) rfl (fun ls hl => ?_)
          refine lv_aload hx hb dT_countBelow_78 (lv_at hl 2 rfl) ?_
          refine lv_iload hx hb dT_countBelow_80 (lv_at hl 1 rfl) ?_
          refine lv_iload hx hb dT_countBelow_82 (lv_at hl 5 rfl) ?_
          refine vp_callSi (va_runV (As := [.int (nI (bN (tb x (8 - d)))), .int (nI (pq os n d (tp d x) u))]) (rest := []) ⟨hx, hb, hml, hown, hA9⟩ (c_V_down l D cI cO cJ N ad ce (6 + 3 * d) (by omega) (bs os n d) n (tL d (by omega)) (tb x (8 - d)) (pq os n d (tp d x) u) (pq_le os d _ (by omega))) (cwV 2 hA9 (gV mlT_50 miV_down msV_down mn_V mkV_down) rfl rfl rfl (by decide +kernel) ⟨Nat.le_of_ble_eq_true rfl, Nat.le_of_ble_eq_true rfl⟩) ⟨PR_bl, wx_recv hK hP (by omega) (tL d (by omega)).o rfl, PR_mk hK hP⟩ rfl rfl hl.1 rfl (lv_room (Nat.le_of_ble_eq_true rfl)) dT_countBelow_84 ⟨Nat.le_of_ble_eq_true rfl, Nat.le_of_ble_eq_true rfl⟩).run (fun r9 hr9 => ?_)
          obtain rfl : r9 = nI (pq os n (d + 1) (tp (d + 1) x) u) := hr9.trans (by rw [pq_x (by omega)])
          refine lv_istore (lv' := [(5, .int (nI (pq os n (d + 1) (tp (d + 1) x) u))), (4, .int (nI (bl f x u v (d + 1)))), (9, .int (nI (bN (tb x (8 - d))))), (8, .ref (ad (6 + 3 * d))), (7, .int (nI d)), (6, .int (nI (pq os n d (tp d x) v))), (0, .ref (ad 2)), (1, .int (nI x)), (2, .int (nI u)), (3, .int (nI v))]) hx hb dT_countBelow_87 hl (by decide) rfl (fun ls hl => ?_)
          refine lv_aload hx hb dT_countBelow_89 (lv_at hl 3 rfl) ?_
          refine lv_iload hx hb dT_countBelow_91 (lv_at hl 2 rfl) ?_
          refine lv_iload hx hb dT_countBelow_93 (lv_at hl 5 rfl) ?_
          refine vp_callSi (va_runV (As := [.int (nI (bN (tb x (8 - d)))), .int (nI (pq os n d (tp d x) v))]) (rest := []) ⟨hx, hb, hml, hown, hA9⟩ (c_V_down l D cI cO cJ N ad ce (6 + 3 * d) (by omega) (bs os n d) n (tL d (by omega)) (tb x (8 - d)) (pq os n d (tp d x) v) (pq_le os d _ hv)) (cwV 2 hA9 (gV mlT_50 miV_down msV_down mn_V mkV_down) rfl rfl rfl (by decide +kernel) ⟨Nat.le_of_ble_eq_true rfl, Nat.le_of_ble_eq_true rfl⟩) ⟨PR_bl, wx_recv hK hP (by omega) (tL d (by omega)).o rfl, PR_mk hK hP⟩ rfl rfl hl.1 rfl (lv_room (Nat.le_of_ble_eq_true rfl)) dT_countBelow_95 ⟨Nat.le_of_ble_eq_true rfl, Nat.le_of_ble_eq_true rfl⟩).run (fun r10 hr10 => ?_)
          obtain rfl : r10 = nI (pq os n (d + 1) (tp (d + 1) x) v) := hr10.trans (by rw [pq_x (by omega)])
          refine lv_istore (lv' := [(6, .int (nI (pq os n (d + 1) (tp (d + 1) x) v))), (5, .int (nI (pq os n (d + 1) (tp (d + 1) x) u))), (4, .int (nI (bl f x u v (d + 1)))), (9, .int (nI (bN (tb x (8 - d))))), (8, .ref (ad (6 + 3 * d))), (7, .int (nI d)), (0, .ref (ad 2)), (1, .int (nI x)), (2, .int (nI u)), (3, .int (nI v))]) hx hb dT_countBelow_98 hl (by decide) rfl (fun ls hl => ?_)
          refine lv_iinc (v := nI (d + 1)) (lv' := [(7, .int (nI (d + 1))), (6, .int (nI (pq os n (d + 1) (tp (d + 1) x) v))), (5, .int (nI (pq os n (d + 1) (tp (d + 1) x) u))), (4, .int (nI (bl f x u v (d + 1)))), (9, .int (nI (bN (tb x (8 - d))))), (8, .ref (ad (6 + 3 * d))), (0, .ref (ad 2)), (1, .int (nI x)), (2, .int (nI u)), (3, .int (nI v))]) hx hb dT_countBelow_100 hl (k := 5) rfl (nI_1 d) (by decide) rfl (fun ls hl => ?_)
          refine lv_goto (tgt := 23) hx hb dT_countBelow_103 (by decide) ?_
          exact ih _ (by omega) (ls := ls) (d := d + 1) (lv_sub hl [0, 1, 2, 3, 6, 7, 8, 9] rfl) (by omega) rfl
  · skip
    have d0 := nltN c4
    refine lv_iload_n hx hb dT_countBelow_7 rfl (lv_at hl 3 rfl) ?_
    refine lv_iload_n hx hb dT_countBelow_8 rfl (lv_at hl 2 rfl) ?_
    refine lv_isub hx hb dT_countBelow_9 ?_
    refine lv_topi (fun z11 ez11 => ?_)
    obtain rfl : z11 = nI (lq f x u v) := by rw [ez11]; rw [show x = 512 by omega, lq_512 hf huv hv]; exact pk_sub huv
    exact W.iret (v := (nI (lq f x u v))) hx hb hr (fun t ht hW => ⟨(nI (lq f x u v)), rfl, rfl, ht⟩) (fun q h => nomatch h) dT_countBelow_10

set_option maxHeartbeats 4000000 in
set_option maxRecDepth 100000 in
theorem c_T_groupOf (l : Launch) (D : va_G) (cI cO cJ : ClassId) (N : Nat) (ad : Nat → Nat) (ce : Nat → va_E) (hN : 33 ≤ N) (os : Nat → Nat → Nat) (n : Nat) (hT : TR cI cO ad ce os n) (f : Nat → Nat) (hW : WM f n os) (hf : ∀ i, i < n → f i < 512) (u v : Nat) (huv : u ≤ v) (hv : v ≤ n) (k0 : Nat) (hk0 : k0 < v - u) : Met l yT_groupOf (.code yT_groupOf bT_groupOf 12 (some .int) :: WA) ({ frames := 3, cells := 0, slots := 0, locals := 65 }) (PR D (TY cI cO cJ) N ad ce [.ref (ad 2), .int (nI u), .int (nI v), .int (nI k0)]) (vp_Si (fun r => ∃ y, r = nI (y * 4096 + eq f y u v) ∧ KT f u v k0 y ∧ y < 512)) 0 0 (fun _ => False) := by
  refine Met.ofW (cc := bT_groupOf) (maxL := 12) (ret := (some .int)) (by decide) rfl ?_
  intro p e s m args below meth c s₁ B hml hv
  obtain ⟨rfl, hP, hK⟩ := hv
  have hx := B.exec
  have hb := B.bytes
  have hr := B.returns
  have hA9 : ∀ w ∈ WA, w.before _ s = true := fun w h => atoms_spec (ws := .code yT_groupOf bT_groupOf 12 (some .int) :: WA) B.pre w (List.mem_cons_of_mem _ h)
  have hown : s.vm.findClass RT = some m.cls := findClass_of_methodNamed B.named
  have hlocks := B.notSynchronized
  have hl := lv_entry ([.ref (ad 2), .int (nI u), .int (nI v), .int (nI k0)]) (n := 12) (Nat.le_of_ble_eq_true rfl)
  rw [lg_entry_eq]
  generalize (lg_sl ([.ref (ad 2), .int (nI u), .int (nI v), .int (nI k0)]) ++ List.replicate (12 - (lg_sl ([.ref (ad 2), .int (nI u), .int (nI v), .int (nI k0)])).length) Slot.unset).toArray = ls at hl ⊢
  have hl : lv_has ls 12 [(0, .ref (ad 2)), (1, .int (nI u)), (2, .int (nI v)), (3, .int (nI k0))] := hl
  obtain ⟨t2, ⟨lv, t3, tlv⟩, tL, hn⟩ := id hT
  refine lv_iconst (v := nI 0) hx hb dT_groupOf_0 (by decide +kernel) ?_
  refine lv_istore (lv' := [(4, .int (nI 0)), (0, .ref (ad 2)), (1, .int (nI u)), (2, .int (nI v)), (3, .int (nI k0))]) hx hb dT_groupOf_1 hl (by decide) rfl (fun ls hl => ?_)
  refine lv_iload_n hx hb dT_groupOf_3 rfl (lv_at hl 2 rfl) ?_
  refine lv_istore (lv' := [(5, .int (nI u)), (4, .int (nI 0)), (0, .ref (ad 2)), (1, .int (nI u)), (2, .int (nI v)), (3, .int (nI k0))]) hx hb dT_groupOf_4 hl (by decide) rfl (fun ls hl => ?_)
  refine lv_iload_n hx hb dT_groupOf_6 rfl (lv_at hl 4 rfl) ?_
  refine lv_istore (lv' := [(6, .int (nI v)), (5, .int (nI u)), (4, .int (nI 0)), (0, .ref (ad 2)), (1, .int (nI u)), (2, .int (nI v)), (3, .int (nI k0))]) hx hb dT_groupOf_7 hl (by decide) rfl (fun ls hl => ?_)
  refine lv_iload_n hx hb dT_groupOf_9 rfl (lv_at hl 6 rfl) ?_
  refine lv_istore (lv' := [(7, .int (nI k0)), (6, .int (nI v)), (5, .int (nI u)), (4, .int (nI 0)), (0, .ref (ad 2)), (1, .int (nI u)), (2, .int (nI v)), (3, .int (nI k0))]) hx hb dT_groupOf_10 hl (by decide) rfl (fun ls hl => ?_)
  refine lv_iconst (v := nI 0) hx hb dT_groupOf_12 (by decide +kernel) ?_
  refine lv_istore (lv' := [(8, .int (nI 0)), (7, .int (nI k0)), (6, .int (nI v)), (5, .int (nI u)), (4, .int (nI 0)), (0, .ref (ad 2)), (1, .int (nI u)), (2, .int (nI v)), (3, .int (nI k0))]) hx hb dT_groupOf_13 hl (by decide) rfl (fun ls hl => ?_)
  obtain ⟨d, hd0⟩ : ∃ z : Nat, (0) = z := ⟨_, rfl⟩
  obtain ⟨y, hy0⟩ : ∃ z : Nat, (0) = z := ⟨_, rfl⟩
  replace hl : lv_has ls 12 [(8, .int (nI d)), (7, .int (nI (k0 - gl f u v d y))), (6, .int (nI (pq os n d y v))), (5, .int (nI (pq os n d y u))), (4, .int (nI y)), (0, .ref (ad 2)), (1, .int (nI u)), (2, .int (nI v)), (3, .int (nI k0))] := by subst hd0 hy0; rw [gl0 f huv, Nat.sub_zero]; exact lv_sub hl [0, 1, 2, 3, 4, 5, 6, 7, 8] rfl
  have J : d ≤ 9 ∧ y < 2 ^ d ∧ GK f u v k0 d y := by subst hd0 hy0; exact ⟨by omega, by decide, gk_0 hf huv hv hk0⟩
  clear hd0
  clear hy0
  obtain ⟨k9, hk9⟩ : ∃ z9 : Nat, z9 = 9 - d := ⟨_, rfl⟩
  induction k9 using Nat.strongRecOn generalizing d y ls with
  | ind k9 ih =>
    obtain ⟨j1, j2, j3⟩ := J
    refine lv_iload hx hb dT_groupOf_15 (lv_at hl 0 rfl) ?_
    refine lv_bipush (v := nI 9) hx hb dT_groupOf_17 (by decide +kernel) ?_
    refine lv_icmp_ge (tgt := 114) hx hb dT_groupOf_19 (by decide) (fun c19 => ?_) (fun c19 => ?_)
    · skip
      have d1 := leN c19
      have hd9 : d = 9 := by omega
      subst hd9
      refine lv_iload hx hb dT_groupOf_114 (lv_at hl 4 rfl) ?_
      refine lv_sipush (v := nI 4096) hx hb dT_groupOf_116 (by decide +kernel) ?_
      refine lv_imul hx hb dT_groupOf_119 ?_
      refine lv_iload hx hb dT_groupOf_120 (lv_at hl 2 rfl) ?_
      refine lv_iload hx hb dT_groupOf_122 (lv_at hl 3 rfl) ?_
      refine lv_isub hx hb dT_groupOf_124 ?_
      refine lv_topi (fun z1 ez1 => ?_)
      obtain rfl : z1 = nI (eq f y u v) := by rw [ez1]; rw [pk_sub (pq_mono _ _ _ _ huv), pq_9 hW hf j2 huv hv]
      refine lv_iadd hx hb dT_groupOf_125 ?_
      refine lv_topi (fun z2 ez2 => ?_)
      obtain rfl : z2 = nI (y * 4096 + eq f y u v) := by rw [ez2]; rw [pk_mul, nI_add]
      exact W.iret (v := (nI (y * 4096 + eq f y u v))) hx hb hr (fun t ht hW => ⟨(nI (y * 4096 + eq f y u v)), rfl, ⟨y, rfl, gk_9 j3, j2⟩, ht⟩) (fun q h => nomatch h) dT_groupOf_126
    · skip
      have d1 := nleN c19
      have b1 := ct_le (fun i => decide (tp (d + 1) (f i) = 2 * y)) huv
      refine lv_aload_n hx hb dT_groupOf_22 rfl (lv_at hl 5 rfl) ?_
      refine va_get (D := D) (ci := 1) (v := .ref (ad 3)) (C := RT) (T := TT) (N := 4) hx hb hA9 inT hown hK hP 2 (wx_at (by omega) t2) rfl 0 (by decide) (hA9 _ mfT_11) (fun _ h9 => h9) rfl dT_groupOf_23 ?_
      refine lv_iload hx hb dT_groupOf_26 (lv_at hl 0 rfl) ?_
      refine va_aldq (C := RV) hx hb hK hP 3 1 (wx_at (by omega) t3) rfl (inN) dT_groupOf_28 ?_
      refine W.eq (g2 := F0 m 29 ls [.ref (ad (6 + 3 * d))]) (by rw [clN, tlv d (by omega)]; rfl) ?_
      refine lv_astore (lv' := [(9, .ref (ad (6 + 3 * d))), (8, .int (nI d)), (7, .int (nI (k0 - gl f u v d y))), (6, .int (nI (pq os n d y v))), (5, .int (nI (pq os n d y u))), (4, .int (nI y)), (0, .ref (ad 2)), (1, .int (nI u)), (2, .int (nI v)), (3, .int (nI k0))]) hx hb dT_groupOf_29 hl (by decide) rfl (fun ls hl => ?_)
      refine lv_aload hx hb dT_groupOf_31 (lv_at hl 0 rfl) ?_
      refine lv_iconst (v := nI (bN false)) hx hb dT_groupOf_33 (by decide +kernel) ?_
      refine lv_iload hx hb dT_groupOf_34 (lv_at hl 3 rfl) ?_
      refine vp_callSi (va_runV (As := [.int (nI (bN false)), .int (nI (pq os n d y v))]) (rest := []) ⟨hx, hb, hml, hown, hA9⟩ (c_V_down l D cI cO cJ N ad ce (6 + 3 * d) (by omega) (bs os n d) n (tL d (by omega)) false (pq os n d y v) (pq_le os d _ hv)) (cwV 2 hA9 (gV mlT_50 miV_down msV_down mn_V mkV_down) rfl rfl rfl (by decide +kernel) ⟨Nat.le_of_ble_eq_true rfl, Nat.le_of_ble_eq_true rfl⟩) ⟨PR_bl, wx_recv hK hP (by omega) (tL d (by omega)).o rfl, PR_mk hK hP⟩ rfl rfl hl.1 rfl (lv_room (Nat.le_of_ble_eq_true rfl)) dT_groupOf_36 ⟨Nat.le_of_ble_eq_true rfl, Nat.le_of_ble_eq_true rfl⟩).run (fun r3 hr3 => ?_)
      obtain rfl : r3 = nI (dn (bs os n d) n false (pq os n d y v)) := hr3
      refine lv_aload hx hb dT_groupOf_39 (lv_at hl 0 rfl) ?_
      refine lv_iconst (v := nI (bN false)) hx hb dT_groupOf_41 (by decide +kernel) ?_
      refine lv_iload hx hb dT_groupOf_42 (lv_at hl 4 rfl) ?_
      refine vp_callSi (va_runV (As := [.int (nI (bN false)), .int (nI (pq os n d y u))]) (rest := [.int (nI (dn (bs os n d) n false (pq os n d y v)))]) ⟨hx, hb, hml, hown, hA9⟩ (c_V_down l D cI cO cJ N ad ce (6 + 3 * d) (by omega) (bs os n d) n (tL d (by omega)) false (pq os n d y u) (pq_le os d _ (by omega))) (cwV 2 hA9 (gV mlT_50 miV_down msV_down mn_V mkV_down) rfl rfl rfl (by decide +kernel) ⟨Nat.le_of_ble_eq_true rfl, Nat.le_of_ble_eq_true rfl⟩) ⟨PR_bl, wx_recv hK hP (by omega) (tL d (by omega)).o rfl, PR_mk hK hP⟩ rfl rfl hl.1 rfl (lv_room (Nat.le_of_ble_eq_true rfl)) dT_groupOf_44 ⟨Nat.le_of_ble_eq_true rfl, Nat.le_of_ble_eq_true rfl⟩).run (fun r4 hr4 => ?_)
      obtain rfl : r4 = nI (dn (bs os n d) n false (pq os n d y u)) := hr4
      refine lv_isub hx hb dT_groupOf_47 ?_
      refine lv_topi (fun z5 ez5 => ?_)
      obtain rfl : z5 = nI (ct (fun i => decide (tp (d + 1) (f i) = 2 * y)) u v) := by rw [ez5]; rw [pk_sub (dn_mono _ _ _ (pq_mono _ _ _ _ huv)), zc hW hf (by omega) j2 huv hv]
      refine lv_istore (lv' := [(10, .int (nI (ct (fun i => decide (tp (d + 1) (f i) = 2 * y)) u v))), (9, .ref (ad (6 + 3 * d))), (8, .int (nI d)), (7, .int (nI (k0 - gl f u v d y))), (6, .int (nI (pq os n d y v))), (5, .int (nI (pq os n d y u))), (4, .int (nI y)), (0, .ref (ad 2)), (1, .int (nI u)), (2, .int (nI v)), (3, .int (nI k0))]) hx hb dT_groupOf_48 hl (by decide) rfl (fun ls hl => ?_)
      refine lv_iload hx hb dT_groupOf_50 (lv_at hl 3 rfl) ?_
      refine lv_iload hx hb dT_groupOf_52 (lv_at hl 0 rfl) ?_
      refine lv_icmp_ge (tgt := 61) hx hb dT_groupOf_54 (by decide) (fun c54 => ?_) (fun c54 => ?_)
      · skip
        have dz := leN c54
        refine lv_iconst (v := nI (bN true)) hx hb dT_groupOf_61 (by decide +kernel) ?_
        refine lv_istore (lv' := [(11, .int (nI (bN true))), (10, .int (nI (ct (fun i => decide (tp (d + 1) (f i) = 2 * y)) u v))), (9, .ref (ad (6 + 3 * d))), (8, .int (nI d)), (7, .int (nI (k0 - gl f u v d y))), (6, .int (nI (pq os n d y v))), (5, .int (nI (pq os n d y u))), (4, .int (nI y)), (0, .ref (ad 2)), (1, .int (nI u)), (2, .int (nI v)), (3, .int (nI k0))]) hx hb dT_groupOf_62 hl (by decide) rfl (fun ls hl => ?_)
        refine lv_iload hx hb dT_groupOf_64 (lv_at hl 0 rfl) ?_
        refine lv_iconst (v := nI 1) hx hb dT_groupOf_66 (by decide +kernel) ?_
        refine lv_icmp_ne (tgt := 77) hx hb dT_groupOf_67 (by decide) (fun c67 => ?_) (fun c67 => ?_)
        · skip
          exact absurd rfl c67
        · skip
          refine lv_iload hx hb dT_groupOf_70 (lv_at hl 4 rfl) ?_
          refine lv_iload hx hb dT_groupOf_72 (lv_at hl 1 rfl) ?_
          refine lv_isub hx hb dT_groupOf_74 ?_
          refine lv_topi (fun z6 ez6 => ?_)
          obtain rfl : z6 = nI (k0 - gl f u v (d + 1) (2 * y + 1)) := by rw [ez6]; rw [pk_sub dz, Nat.sub_sub]; unfold gl; rw [gk_lt1 (by omega) y huv]
          refine lv_istore (lv' := [(7, .int (nI (k0 - gl f u v (d + 1) (2 * y + 1)))), (11, .int (nI (bN true))), (10, .int (nI (ct (fun i => decide (tp (d + 1) (f i) = 2 * y)) u v))), (9, .ref (ad (6 + 3 * d))), (8, .int (nI d)), (6, .int (nI (pq os n d y v))), (5, .int (nI (pq os n d y u))), (4, .int (nI y)), (0, .ref (ad 2)), (1, .int (nI u)), (2, .int (nI v)), (3, .int (nI k0))]) hx hb dT_groupOf_75 hl (by decide) rfl (fun ls hl => ?_)
          refine lv_iload hx hb dT_groupOf_77 (lv_at hl 7 rfl) ?_
          refine lv_iconst (v := nI 2) hx hb dT_groupOf_79 (by decide +kernel) ?_
          refine lv_imul hx hb dT_groupOf_80 ?_
          refine lv_iload hx hb dT_groupOf_81 (lv_at hl 1 rfl) ?_
          refine lv_iadd hx hb dT_groupOf_83 ?_
          refine lv_topi (fun z7 ez7 => ?_)
          obtain rfl : z7 = nI (2 * y + 1) := by rw [ez7]; rw [pk_mul, nI_add, Nat.mul_comm]; rfl
          refine lv_istore (lv' := [(4, .int (nI (2 * y + 1))), (7, .int (nI (k0 - gl f u v (d + 1) (2 * y + 1)))), (11, .int (nI (bN true))), (10, .int (nI (ct (fun i => decide (tp (d + 1) (f i) = 2 * y)) u v))), (9, .ref (ad (6 + 3 * d))), (8, .int (nI d)), (6, .int (nI (pq os n d y v))), (5, .int (nI (pq os n d y u))), (0, .ref (ad 2)), (1, .int (nI u)), (2, .int (nI v)), (3, .int (nI k0))]) hx hb dT_groupOf_84 hl (by decide) rfl (fun ls hl => ?_)
          refine lv_aload hx hb dT_groupOf_86 (lv_at hl 4 rfl) ?_
          refine lv_iload hx hb dT_groupOf_88 (lv_at hl 2 rfl) ?_
          refine lv_iload hx hb dT_groupOf_90 (lv_at hl 7 rfl) ?_
          refine vp_callSi (va_runV (As := [.int (nI (bN true)), .int (nI (pq os n d y u))]) (rest := []) ⟨hx, hb, hml, hown, hA9⟩ (c_V_down l D cI cO cJ N ad ce (6 + 3 * d) (by omega) (bs os n d) n (tL d (by omega)) true (pq os n d y u) (pq_le os d _ (by omega))) (cwV 2 hA9 (gV mlT_50 miV_down msV_down mn_V mkV_down) rfl rfl rfl (by decide +kernel) ⟨Nat.le_of_ble_eq_true rfl, Nat.le_of_ble_eq_true rfl⟩) ⟨PR_bl, wx_recv hK hP (by omega) (tL d (by omega)).o rfl, PR_mk hK hP⟩ rfl rfl hl.1 rfl (lv_room (Nat.le_of_ble_eq_true rfl)) dT_groupOf_92 ⟨Nat.le_of_ble_eq_true rfl, Nat.le_of_ble_eq_true rfl⟩).run (fun r8 hr8 => ?_)
          obtain rfl : r8 = nI (pq os n (d + 1) (2 * y + 1) u) := hr8.trans (by rw [pq_o])
          refine lv_istore (lv' := [(5, .int (nI (pq os n (d + 1) (2 * y + 1) u))), (4, .int (nI (2 * y + 1))), (7, .int (nI (k0 - gl f u v (d + 1) (2 * y + 1)))), (11, .int (nI (bN true))), (10, .int (nI (ct (fun i => decide (tp (d + 1) (f i) = 2 * y)) u v))), (9, .ref (ad (6 + 3 * d))), (8, .int (nI d)), (6, .int (nI (pq os n d y v))), (0, .ref (ad 2)), (1, .int (nI u)), (2, .int (nI v)), (3, .int (nI k0))]) hx hb dT_groupOf_95 hl (by decide) rfl (fun ls hl => ?_)
          refine lv_aload hx hb dT_groupOf_97 (lv_at hl 5 rfl) ?_
          refine lv_iload hx hb dT_groupOf_99 (lv_at hl 3 rfl) ?_
          refine lv_iload hx hb dT_groupOf_101 (lv_at hl 7 rfl) ?_
          refine vp_callSi (va_runV (As := [.int (nI (bN true)), .int (nI (pq os n d y v))]) (rest := []) ⟨hx, hb, hml, hown, hA9⟩ (c_V_down l D cI cO cJ N ad ce (6 + 3 * d) (by omega) (bs os n d) n (tL d (by omega)) true (pq os n d y v) (pq_le os d _ hv)) (cwV 2 hA9 (gV mlT_50 miV_down msV_down mn_V mkV_down) rfl rfl rfl (by decide +kernel) ⟨Nat.le_of_ble_eq_true rfl, Nat.le_of_ble_eq_true rfl⟩) ⟨PR_bl, wx_recv hK hP (by omega) (tL d (by omega)).o rfl, PR_mk hK hP⟩ rfl rfl hl.1 rfl (lv_room (Nat.le_of_ble_eq_true rfl)) dT_groupOf_103 ⟨Nat.le_of_ble_eq_true rfl, Nat.le_of_ble_eq_true rfl⟩).run (fun r9 hr9 => ?_)
          obtain rfl : r9 = nI (pq os n (d + 1) (2 * y + 1) v) := hr9.trans (by rw [pq_o])
          refine lv_istore (lv' := [(6, .int (nI (pq os n (d + 1) (2 * y + 1) v))), (5, .int (nI (pq os n (d + 1) (2 * y + 1) u))), (4, .int (nI (2 * y + 1))), (7, .int (nI (k0 - gl f u v (d + 1) (2 * y + 1)))), (11, .int (nI (bN true))), (10, .int (nI (ct (fun i => decide (tp (d + 1) (f i) = 2 * y)) u v))), (9, .ref (ad (6 + 3 * d))), (8, .int (nI d)), (0, .ref (ad 2)), (1, .int (nI u)), (2, .int (nI v)), (3, .int (nI k0))]) hx hb dT_groupOf_106 hl (by decide) rfl (fun ls hl => ?_)
          refine lv_iinc (v := nI (d + 1)) (lv' := [(8, .int (nI (d + 1))), (6, .int (nI (pq os n (d + 1) (2 * y + 1) v))), (5, .int (nI (pq os n (d + 1) (2 * y + 1) u))), (4, .int (nI (2 * y + 1))), (7, .int (nI (k0 - gl f u v (d + 1) (2 * y + 1)))), (11, .int (nI (bN true))), (10, .int (nI (ct (fun i => decide (tp (d + 1) (f i) = 2 * y)) u v))), (9, .ref (ad (6 + 3 * d))), (0, .ref (ad 2)), (1, .int (nI u)), (2, .int (nI v)), (3, .int (nI k0))]) hx hb dT_groupOf_108 hl (k := 7) rfl (nI_1 d) (by decide) rfl (fun ls hl => ?_)
          refine lv_goto (tgt := 15) hx hb dT_groupOf_111 (by decide) ?_
          exact ih _ (by omega) (ls := ls) (d := d + 1) (y := 2 * y + 1) (lv_sub hl [0, 4, 1, 2, 3, 8, 9, 10, 11] rfl) (⟨by omega, by rw [Nat.pow_succ]; omega, gk_o (by omega) huv j3 dz⟩) rfl
      · skip
        have dz := nleN c54
        rw [gl_e (f := f) (show d < 9 by omega) y huv] at hl
        refine lv_iconst (v := nI (bN false)) hx hb dT_groupOf_57 (by decide +kernel) ?_
        refine lv_goto (tgt := 62) hx hb dT_groupOf_58 (by decide) ?_
        refine lv_istore (lv' := [(11, .int (nI (bN false))), (10, .int (nI (ct (fun i => decide (tp (d + 1) (f i) = 2 * y)) u v))), (9, .ref (ad (6 + 3 * d))), (8, .int (nI d)), (7, .int (nI (k0 - gl f u v (d + 1) (2 * y)))), (6, .int (nI (pq os n d y v))), (5, .int (nI (pq os n d y u))), (4, .int (nI y)), (0, .ref (ad 2)), (1, .int (nI u)), (2, .int (nI v)), (3, .int (nI k0))]) hx hb dT_groupOf_62 hl (by decide) rfl (fun ls hl => ?_)
        refine lv_iload hx hb dT_groupOf_64 (lv_at hl 0 rfl) ?_
        refine lv_iconst (v := nI 1) hx hb dT_groupOf_66 (by decide +kernel) ?_
        refine lv_icmp_ne (tgt := 77) hx hb dT_groupOf_67 (by decide) (fun c67 => ?_) (fun c67 => ?_)
        · skip
          refine lv_iload hx hb dT_groupOf_77 (lv_at hl 7 rfl) ?_
          refine lv_iconst (v := nI 2) hx hb dT_groupOf_79 (by decide +kernel) ?_
          refine lv_imul hx hb dT_groupOf_80 ?_
          refine lv_iload hx hb dT_groupOf_81 (lv_at hl 0 rfl) ?_
          refine lv_iadd hx hb dT_groupOf_83 ?_
          refine lv_topi (fun z10 ez10 => ?_)
          obtain rfl : z10 = nI (2 * y) := by rw [ez10]; rw [pk_mul, nI_add, Nat.mul_comm]; rfl
          refine lv_istore (lv' := [(4, .int (nI (2 * y))), (11, .int (nI (bN false))), (10, .int (nI (ct (fun i => decide (tp (d + 1) (f i) = 2 * y)) u v))), (9, .ref (ad (6 + 3 * d))), (8, .int (nI d)), (7, .int (nI (k0 - gl f u v (d + 1) (2 * y)))), (6, .int (nI (pq os n d y v))), (5, .int (nI (pq os n d y u))), (0, .ref (ad 2)), (1, .int (nI u)), (2, .int (nI v)), (3, .int (nI k0))]) hx hb dT_groupOf_84 hl (by decide) rfl (fun ls hl => ?_)
          refine lv_aload hx hb dT_groupOf_86 (lv_at hl 3 rfl) ?_
          refine lv_iload hx hb dT_groupOf_88 (lv_at hl 1 rfl) ?_
          refine lv_iload hx hb dT_groupOf_90 (lv_at hl 7 rfl) ?_
          refine vp_callSi (va_runV (As := [.int (nI (bN false)), .int (nI (pq os n d y u))]) (rest := []) ⟨hx, hb, hml, hown, hA9⟩ (c_V_down l D cI cO cJ N ad ce (6 + 3 * d) (by omega) (bs os n d) n (tL d (by omega)) false (pq os n d y u) (pq_le os d _ (by omega))) (cwV 2 hA9 (gV mlT_50 miV_down msV_down mn_V mkV_down) rfl rfl rfl (by decide +kernel) ⟨Nat.le_of_ble_eq_true rfl, Nat.le_of_ble_eq_true rfl⟩) ⟨PR_bl, wx_recv hK hP (by omega) (tL d (by omega)).o rfl, PR_mk hK hP⟩ rfl rfl hl.1 rfl (lv_room (Nat.le_of_ble_eq_true rfl)) dT_groupOf_92 ⟨Nat.le_of_ble_eq_true rfl, Nat.le_of_ble_eq_true rfl⟩).run (fun r11 hr11 => ?_)
          obtain rfl : r11 = nI (pq os n (d + 1) (2 * y) u) := hr11.trans (by rw [pq_e])
          refine lv_istore (lv' := [(5, .int (nI (pq os n (d + 1) (2 * y) u))), (4, .int (nI (2 * y))), (11, .int (nI (bN false))), (10, .int (nI (ct (fun i => decide (tp (d + 1) (f i) = 2 * y)) u v))), (9, .ref (ad (6 + 3 * d))), (8, .int (nI d)), (7, .int (nI (k0 - gl f u v (d + 1) (2 * y)))), (6, .int (nI (pq os n d y v))), (0, .ref (ad 2)), (1, .int (nI u)), (2, .int (nI v)), (3, .int (nI k0))]) hx hb dT_groupOf_95 hl (by decide) rfl (fun ls hl => ?_)
          refine lv_aload hx hb dT_groupOf_97 (lv_at hl 4 rfl) ?_
          refine lv_iload hx hb dT_groupOf_99 (lv_at hl 2 rfl) ?_
          refine lv_iload hx hb dT_groupOf_101 (lv_at hl 7 rfl) ?_
          refine vp_callSi (va_runV (As := [.int (nI (bN false)), .int (nI (pq os n d y v))]) (rest := []) ⟨hx, hb, hml, hown, hA9⟩ (c_V_down l D cI cO cJ N ad ce (6 + 3 * d) (by omega) (bs os n d) n (tL d (by omega)) false (pq os n d y v) (pq_le os d _ hv)) (cwV 2 hA9 (gV mlT_50 miV_down msV_down mn_V mkV_down) rfl rfl rfl (by decide +kernel) ⟨Nat.le_of_ble_eq_true rfl, Nat.le_of_ble_eq_true rfl⟩) ⟨PR_bl, wx_recv hK hP (by omega) (tL d (by omega)).o rfl, PR_mk hK hP⟩ rfl rfl hl.1 rfl (lv_room (Nat.le_of_ble_eq_true rfl)) dT_groupOf_103 ⟨Nat.le_of_ble_eq_true rfl, Nat.le_of_ble_eq_true rfl⟩).run (fun r12 hr12 => ?_)
          obtain rfl : r12 = nI (pq os n (d + 1) (2 * y) v) := hr12.trans (by rw [pq_e])
          refine lv_istore (lv' := [(6, .int (nI (pq os n (d + 1) (2 * y) v))), (5, .int (nI (pq os n (d + 1) (2 * y) u))), (4, .int (nI (2 * y))), (11, .int (nI (bN false))), (10, .int (nI (ct (fun i => decide (tp (d + 1) (f i) = 2 * y)) u v))), (9, .ref (ad (6 + 3 * d))), (8, .int (nI d)), (7, .int (nI (k0 - gl f u v (d + 1) (2 * y)))), (0, .ref (ad 2)), (1, .int (nI u)), (2, .int (nI v)), (3, .int (nI k0))]) hx hb dT_groupOf_106 hl (by decide) rfl (fun ls hl => ?_)
          refine lv_iinc (v := nI (d + 1)) (lv' := [(8, .int (nI (d + 1))), (6, .int (nI (pq os n (d + 1) (2 * y) v))), (5, .int (nI (pq os n (d + 1) (2 * y) u))), (4, .int (nI (2 * y))), (11, .int (nI (bN false))), (10, .int (nI (ct (fun i => decide (tp (d + 1) (f i) = 2 * y)) u v))), (9, .ref (ad (6 + 3 * d))), (7, .int (nI (k0 - gl f u v (d + 1) (2 * y)))), (0, .ref (ad 2)), (1, .int (nI u)), (2, .int (nI v)), (3, .int (nI k0))]) hx hb dT_groupOf_108 hl (k := 6) rfl (nI_1 d) (by decide) rfl (fun ls hl => ?_)
          refine lv_goto (tgt := 15) hx hb dT_groupOf_111 (by decide) ?_
          exact ih _ (by omega) (ls := ls) (d := d + 1) (y := 2 * y) (lv_sub hl [0, 7, 1, 2, 3, 8, 9, 10, 11] rfl) (⟨by omega, by rw [Nat.pow_succ]; omega, gk_z (by omega) huv j3 dz⟩) rfl
        · skip
          exact absurd c67 (by decide +kernel)

set_option maxHeartbeats 4000000 in
set_option maxRecDepth 100000 in
theorem c_T_placeOf (l : Launch) (D : va_G) (cI cO cJ : ClassId) (N : Nat) (ad : Nat → Nat) (ce : Nat → va_E) (hN : 33 ≤ N) (os : Nat → Nat → Nat) (n : Nat) (hT : TR cI cO ad ce os n) (f : Nat → Nat) (hW : WM f n os) (hf : ∀ i, i < n → f i < 512) (x : Nat) (hx5 : x < 512) (k0 i0 : Nat) (hi0 : i0 < n) (hfi : f i0 = x) (hk0 : cn (fun i => decide (f i = x)) i0 = k0) : Met l yT_placeOf (.code yT_placeOf bT_placeOf 5 (some .int) :: WA) ({ frames := 4, cells := 0, slots := 0, locals := 89 }) (PR D (TY cI cO cJ) N ad ce [.ref (ad 2), .int (nI x), .int (nI k0)]) (vp_Si (fun r => r = nI i0)) 0 0 (fun _ => False) := by
  refine Met.ofW (cc := bT_placeOf) (maxL := 5) (ret := (some .int)) (by decide) rfl ?_
  intro p e s m args below meth c s₁ B hml hv
  obtain ⟨rfl, hP, hK⟩ := hv
  have hx := B.exec
  have hb := B.bytes
  have hr := B.returns
  have hA9 : ∀ w ∈ WA, w.before _ s = true := fun w h => atoms_spec (ws := .code yT_placeOf bT_placeOf 5 (some .int) :: WA) B.pre w (List.mem_cons_of_mem _ h)
  have hown : s.vm.findClass RT = some m.cls := findClass_of_methodNamed B.named
  have hlocks := B.notSynchronized
  have hl := lv_entry ([.ref (ad 2), .int (nI x), .int (nI k0)]) (n := 5) (Nat.le_of_ble_eq_true rfl)
  rw [lg_entry_eq]
  generalize (lg_sl ([.ref (ad 2), .int (nI x), .int (nI k0)]) ++ List.replicate (5 - (lg_sl ([.ref (ad 2), .int (nI x), .int (nI k0)])).length) Slot.unset).toArray = ls at hl ⊢
  have hl : lv_has ls 5 [(0, .ref (ad 2)), (1, .int (nI x)), (2, .int (nI k0))] := hl
  obtain ⟨t2, ⟨lv, t3, tlv⟩, tL, hn⟩ := id hT
  refine lv_aload_n hx hb dT_placeOf_0 rfl (lv_at hl 0 rfl) ?_
  refine lv_iload_n hx hb dT_placeOf_1 rfl (lv_at hl 1 rfl) ?_
  refine lv_iconst (v := nI 0) hx hb dT_placeOf_2 (by decide +kernel) ?_
  refine vp_callSi (va_runV (As := [.int (nI x), .int (nI 0)]) (rest := []) ⟨hx, hb, hml, hown, hA9⟩ (c_T_bottomOf l D cI cO cJ N ad ce hN os n hT x hx5 0 (Nat.zero_le _)) (cwV 2 hA9 (gV mlT_54 miT_bottomOf msT_bottomOf mn_T mkT_bottomOf) rfl rfl rfl (by decide +kernel) ⟨Nat.le_of_ble_eq_true rfl, Nat.le_of_ble_eq_true rfl⟩) ⟨PR_bl, wx_recv hK hP (by omega) t2 rfl, PR_mk hK hP⟩ rfl rfl hl.1 rfl (lv_room (Nat.le_of_ble_eq_true rfl)) dT_placeOf_3 ⟨Nat.le_of_ble_eq_true rfl, Nat.le_of_ble_eq_true rfl⟩).run (fun r1 hr1 => ?_)
  obtain rfl : r1 = nI (pq os n 9 x 0) := hr1
  refine lv_iload_n hx hb dT_placeOf_6 rfl (lv_at hl 2 rfl) ?_
  refine lv_iadd hx hb dT_placeOf_7 ?_
  refine lv_topi (fun z2 ez2 => ?_)
  obtain rfl : z2 = nI (pq os n 9 x i0) := by rw [ez2]; rw [nI_add, ← hk0, pl_sum hW hf hx5 hi0]
  refine lv_istore_n (lv' := [(3, .int (nI (pq os n 9 x i0))), (0, .ref (ad 2)), (1, .int (nI x)), (2, .int (nI k0))]) hx hb dT_placeOf_8 rfl hl (by decide) rfl (fun ls hl => ?_)
  refine lv_bipush (v := nI 8) hx hb dT_placeOf_9 (by decide +kernel) ?_
  refine lv_istore (lv' := [(4, .int (nI 8)), (3, .int (nI (pq os n 9 x i0))), (0, .ref (ad 2)), (1, .int (nI x)), (2, .int (nI k0))]) hx hb dT_placeOf_11 hl (by decide) rfl (fun ls hl => ?_)
  obtain ⟨d, hd0⟩ : ∃ z : Nat, (9) = z := ⟨_, rfl⟩
  replace hl : lv_has ls 5 [(4, .int (nI d - 1)), (3, .int (nI (pq os n d (tp d x) i0))), (0, .ref (ad 2)), (1, .int (nI x)), (2, .int (nI k0))] := by subst hd0; rw [tp_9, show nI 9 - 1 = nI 8 by decide +kernel]; exact lv_sub hl [0, 1, 2, 3, 4] rfl
  have J : d ≤ 9 := by subst hd0; omega
  clear hd0
  obtain ⟨k9, hk9⟩ : ∃ z9 : Nat, z9 = d := ⟨_, rfl⟩
  induction k9 using Nat.strongRecOn generalizing d ls with
  | ind k9 ih =>
    refine lv_iload hx hb dT_placeOf_13 (lv_at hl 0 rfl) ?_
    refine lv_if_lt (tgt := 45) hx hb dT_placeOf_15 (by decide) (fun c15 => ?_) (fun c15 => ?_)
    · skip
      have hd0 : d = 0 := by
        rcases Nat.eq_zero_or_pos d with q | q
        · exact q
        · obtain ⟨dd, rfl⟩ : ∃ dd, d = dd + 1 := ⟨d - 1, by omega⟩
          rw [nI_pred] at c15
          exact absurd c15 (nI_pos (by omega))
      refine lv_iload_n hx hb dT_placeOf_45 rfl (lv_at hl 1 rfl) ?_
      exact W.iret (v := (nI (pq os n d (tp d x) i0))) hx hb hr (fun t ht hW => ⟨(nI (pq os n d (tp d x) i0)), rfl, by rw [hd0]; rfl, ht⟩) (fun q h => nomatch h) dT_placeOf_46
    · skip
      obtain ⟨dd, rfl⟩ : ∃ dd, d = dd + 1 := by
        rcases Nat.eq_zero_or_pos d with q | q
        · subst q; exact absurd (show nI 0 - 1 < 0 by decide +kernel) c15
        · exact ⟨d - 1, by omega⟩
      rw [nI_pred, pq_x (by omega)] at hl
      obtain ⟨ba, bb⟩ := bs_at hW hf (show dd ≤ 9 by omega) hi0
      rw [hfi] at ba bb
      refine lv_aload_n hx hb dT_placeOf_18 rfl (lv_at hl 2 rfl) ?_
      refine va_get (D := D) (ci := 1) (v := .ref (ad 3)) (C := RT) (T := TT) (N := 4) hx hb hA9 inT hown hK hP 2 (wx_at (by omega) t2) rfl 0 (by decide) (hA9 _ mfT_11) (fun _ h9 => h9) rfl dT_placeOf_19 ?_
      refine lv_iload hx hb dT_placeOf_22 (lv_at hl 0 rfl) ?_
      refine va_aldq (C := RV) hx hb hK hP 3 1 (wx_at (by omega) t3) rfl (inN) dT_placeOf_24 ?_
      refine W.eq (g2 := F0 m 25 ls [.ref (ad (6 + 3 * dd))]) (by rw [clN, tlv dd (by omega)]; rfl) ?_
      refine lv_iload_n hx hb dT_placeOf_25 rfl (lv_at hl 3 rfl) ?_
      refine lv_iload hx hb dT_placeOf_26 (lv_at hl 0 rfl) ?_
      refine vp_callSi (va_runS (As := [.int (nI dd)]) (rest := [.int (nI x), .ref (ad (6 + 3 * dd))]) ⟨hx, hb, hml, hown, hA9⟩ (c_T_shiftOf l dd (by omega)) (va_cwS 1 hA9 (gS mlT_35 mtT_shiftOf mn_T mkT_shiftOf) rfl rfl rfl (by decide +kernel) ⟨Nat.le_of_ble_eq_true rfl, Nat.le_of_ble_eq_true rfl⟩) ⟨P0_bl, P0_mk⟩ rfl rfl hl.1 rfl (lv_room (Nat.le_of_ble_eq_true rfl)) dT_placeOf_28 ⟨Nat.le_of_ble_eq_true rfl, Nat.le_of_ble_eq_true rfl⟩).run (fun r3 hr3 => ?_)
      obtain rfl : r3 = nI (8 - dd) := hr3
      refine lv_ishr hx hb dT_placeOf_31 ?_
      refine lv_iconst (v := nI 1) hx hb dT_placeOf_32 (by decide +kernel) ?_
      refine lv_iand hx hb dT_placeOf_33 ?_
      refine lv_topi (fun z4 ez4 => ?_)
      obtain rfl : z4 = nI (bN (tb x (8 - dd))) := by rw [ez4]; exact sh1 (by omega) (by omega)
      refine lv_iload_n hx hb dT_placeOf_34 rfl (lv_at hl 1 rfl) ?_
      refine vp_callSi (va_runV (As := [.int (nI (bN (tb x (8 - dd)))), .int (nI (dn (bs os n dd) n (tb x (8 - dd)) (pq os n dd (tp dd x) i0)))]) (rest := []) ⟨hx, hb, hml, hown, hA9⟩ (c_V_up l D cI cO cJ N ad ce (6 + 3 * dd) (by omega) (bs os n dd) n (tL dd (by omega)) (tb x (8 - dd)) (pq os n dd (tp dd x) i0) ba bb) (cwV 2 hA9 (gV mlT_57 miV_up msV_up mn_V mkV_up) rfl rfl rfl (by decide +kernel) ⟨Nat.le_of_ble_eq_true rfl, Nat.le_of_ble_eq_true rfl⟩) ⟨PR_bl, wx_recv hK hP (by omega) (tL dd (by omega)).o rfl, PR_mk hK hP⟩ rfl rfl hl.1 rfl (lv_room (Nat.le_of_ble_eq_true rfl)) dT_placeOf_35 ⟨Nat.le_of_ble_eq_true rfl, Nat.le_of_ble_eq_true rfl⟩).run (fun r5 hr5 => ?_)
      obtain rfl : r5 = nI (pq os n dd (tp dd x) i0) := hr5
      refine lv_istore_n (lv' := [(3, .int (nI (pq os n dd (tp dd x) i0))), (4, .int (nI dd)), (0, .ref (ad 2)), (1, .int (nI x)), (2, .int (nI k0))]) hx hb dT_placeOf_38 rfl hl (by decide) rfl (fun ls hl => ?_)
      refine lv_iinc (v := nI dd - 1) (lv' := [(4, .int (nI dd - 1)), (3, .int (nI (pq os n dd (tp dd x) i0))), (0, .ref (ad 2)), (1, .int (nI x)), (2, .int (nI k0))]) hx hb dT_placeOf_39 hl (k := 1) rfl (by rw [Int32.sub_eq_add_neg]; rfl) (by decide) rfl (fun ls hl => ?_)
      refine lv_goto (tgt := 13) hx hb dT_placeOf_42 (by decide) ?_
      exact ih _ (by omega) (ls := ls) (d := dd) (lv_sub hl [0, 1, 2, 3, 4] rfl) (by omega) rfl
