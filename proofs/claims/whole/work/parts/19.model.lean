set_option maxHeartbeats 4000000 in
set_option maxRecDepth 100000 in
theorem c_M_thrown (l : Launch) (D : va_G) (cI cO cJ : ClassId) (N : Nat) (ad : Nat → Nat) (ce : Nat → va_E) (hN : 40 ≤ N) (th : Int32) (rs bu tl : Nat) (h0 : ce 34 = .inr (3, [.int (th), .ref (ad 35), .ref (ad 36), .ref (ad 37), .ref (ad 38), .ref (ad 39), .int (nI rs), .int (nI bu), .int (nI tl)])) : Met l yM_thrown (.code yM_thrown bM_thrown 1 (some .int) :: WA) ({ frames := 0, cells := 0, slots := 0, locals := 0 }) (PR D (TY cI cO cJ) N ad ce [.ref (ad 34)]) (vp_Si (fun r => r = th)) 0 0 (fun _ => False) := by
  refine Met.ofW (cc := bM_thrown) (maxL := 1) (ret := (some .int)) (by decide) rfl ?_
  intro p e s m args below meth c s₁ B hml hv
  obtain ⟨rfl, hP, hK⟩ := hv
  have hx := B.exec
  have hb := B.bytes
  have hr := B.returns
  have hA9 : ∀ w ∈ WA, w.before _ s = true := fun w h => atoms_spec (ws := .code yM_thrown bM_thrown 1 (some .int) :: WA) B.pre w (List.mem_cons_of_mem _ h)
  have hown : s.vm.findClass RM = some m.cls := findClass_of_methodNamed B.named
  have hlocks := B.notSynchronized
  have hl := lv_entry ([.ref (ad 34)]) (n := 1) (Nat.le_of_ble_eq_true rfl)
  rw [lg_entry_eq]
  generalize (lg_sl ([.ref (ad 34)]) ++ List.replicate (1 - (lg_sl ([.ref (ad 34)])).length) Slot.unset).toArray = ls at hl ⊢
  have hl : lv_has ls 1 [(0, .ref (ad 34))] := hl
  refine lv_aload_n hx hb dM_thrown_0 rfl (lv_at hl 0 rfl) ?_
  refine va_get (D := D) (ci := 3) (v := .int (th)) (C := RM) (T := TM) (N := 9) hx hb hA9 inM hown hK hP 34 (wx_at (by omega) h0) rfl 0 (by decide) (hA9 _ mfM_7) (fun _ h9 => h9) rfl dM_thrown_1 ?_
  exact W.iret (v := (th)) hx hb hr (fun t ht hW => ⟨(th), rfl, rfl, ht⟩) (fun q h => nomatch h) dM_thrown_4

set_option maxHeartbeats 4000000 in
set_option maxRecDepth 100000 in
theorem c_M_refuse (l : Launch) (D : va_G) (cI cO cJ : ClassId) (N : Nat) (ad : Nat → Nat) (ce : Nat → va_E) (sz : Nat) (hN : 40 ≤ N) (th : Int32) (rs bu tl : Nat) (h0 : ce 34 = .inr (3, [.int (th), .ref (ad 35), .ref (ad 36), .ref (ad 37), .ref (ad 38), .ref (ad 39), .int (nI rs), .int (nI bu), .int (nI tl)])) (kk : Nat) (x : Bool) : Met l yM_refuse (.code yM_refuse bM_refuse 3 (some .boolean) :: WA) ({ frames := 0, cells := 0, slots := 0, locals := 0 }) (PM D (TY cI cO cJ) N ad ce sz [.ref (ad 34), .int (nI kk), .int (nI (bN x))]) (va_Qi (fun (r : Int32) (ce1 : Nat → va_E) => r = nI (bN x) ∧ (∀ j, j ≠ 34 → ce1 j = ce j) ∧ ce1 34 = .inr (3, [.int (if x = true then nI kk else th), .ref (ad 35), .ref (ad 36), .ref (ad 37), .ref (ad 38), .ref (ad 39), .int (nI rs), .int (nI bu), .int (nI tl)])) (BW D (TY cI cO cJ) N ad (AW N ad sz)) (AW N ad sz)) 0 0 (AW N ad sz) := by
  refine Met.ofW (cc := bM_refuse) (maxL := 3) (ret := (some .boolean)) (by decide) rfl ?_
  intro p e s m args below meth c s₁ B hml hv
  obtain ⟨rfl, hsz, hP, hK, hD0⟩ := hv
  have hx := B.exec
  have hb := B.bytes
  have hr := B.returns
  have hA9 : ∀ w ∈ WA, w.before _ s = true := fun w h => atoms_spec (ws := .code yM_refuse bM_refuse 3 (some .boolean) :: WA) B.pre w (List.mem_cons_of_mem _ h)
  have hown : s.vm.findClass RM = some m.cls := findClass_of_methodNamed B.named
  have hlocks := B.notSynchronized
  subst hsz
  have hD := aw_D (sz := s.heap.size) hD0
  generalize hAe : AW N ad s.heap.size = A at hD ⊢
  have hA : ∀ q, s.heap.size ≤ q → A q := fun q h => by rw [← hAe]; exact Or.inr h
  clear hAe hD0
  have hl := lv_entry ([.ref (ad 34), .int (nI kk), .int (nI (bN x))]) (n := 3) (Nat.le_of_ble_eq_true rfl)
  rw [lg_entry_eq]
  generalize (lg_sl ([.ref (ad 34), .int (nI kk), .int (nI (bN x))]) ++ List.replicate (3 - (lg_sl ([.ref (ad 34), .int (nI kk), .int (nI (bN x))])).length) Slot.unset).toArray = ls at hl ⊢
  have hl : lv_has ls 3 [(0, .ref (ad 34)), (1, .int (nI kk)), (2, .int (nI (bN x)))] := hl
  refine st0 (A := A) (fun H locs hS hH => ?_)
  rw [← hH] at hP
  clear hH
  refine lv_iload_n hx hb dM_refuse_0 rfl (lv_at hl 2 rfl) ?_
  refine lv_if_eq (tgt := 9) hx hb dM_refuse_1 (by decide) (fun c1 => ?_) (fun c1 => ?_)
  · skip
    have hx9 := bz_f c1
    refine lv_iload_n hx hb dM_refuse_9 rfl (lv_at hl 2 rfl) ?_
    exact W.zret (v := (nI (bN x))) hx hb hr (by cases x <;> rfl) (fun t ht hW => ⟨⟨(nI (bN x)), ce, rfl, ⟨rfl, (fun j _ => rfl), by rw [hx9]; exact h0⟩, by rw [ht]; exact hP, va_K.moved hW.alike hK, hD⟩, hS.F ht⟩) hS.2.2 dM_refuse_10
  · skip
    have hx9 := bz_t c1
    refine lv_aload_n hx hb dM_refuse_4 rfl (lv_at hl 0 rfl) ?_
    refine lv_iload_n hx hb dM_refuse_5 rfl (lv_at hl 1 rfl) ?_
    refine va_put (D := D) (ci := 3) (v := .int (nI kk)) (ty := .int) (C := RM) (T := TM) (N := 9) hx hb hA9 inM tyM tyM_ok nmM hown hK hP hD hS 34 (wx_at (by omega) h0) rfl 0 (by decide) (hA9 _ mfM_7) (fun _ h9 => h9) rfl (by decide +kernel) rfl rfl (Nat.le_of_ble_eq_true rfl) dM_refuse_6 (fun H locs hP hD hS => ?_)
    replace hP : va_P D CLS ((wx N ad ce).set 34 (ad 34, .inr (3, [.int (nI kk), .ref (ad 35), .ref (ad 36), .ref (ad 37), .ref (ad 38), .ref (ad 39), .int (nI rs), .int (nI bu), .int (nI tl)]))) H := hP
    replace hD : va_D A ((wx N ad ce).set 34 (ad 34, .inr (3, [.int (nI kk), .ref (ad 35), .ref (ad 36), .ref (ad 37), .ref (ad 38), .ref (ad 39), .int (nI rs), .int (nI bu), .int (nI tl)]))) := hD
    obtain ⟨ce1, hce1⟩ : ∃ z9, z9 = va_up ce 34 (.inr (3, [.int (nI kk), .ref (ad 35), .ref (ad 36), .ref (ad 37), .ref (ad 38), .ref (ad 39), .int (nI rs), .int (nI bu), .int (nI tl)])) := ⟨_, rfl⟩
    rw [wx_set (by omega), ← hce1] at hP hD
    have q1 : ce1 34 = .inr (3, [.int (nI kk), .ref (ad 35), .ref (ad 36), .ref (ad 37), .ref (ad 38), .ref (ad 39), .int (nI rs), .int (nI bu), .int (nI tl)]) := by rw [hce1, va_up_self]
    have fr2 : ∀ j, j ≠ 34 → ce1 j = ce j := fun j h0 => by rw [hce1, va_up_ne _ _ h0]
    refine lv_iload_n hx hb dM_refuse_9 rfl (lv_at hl 2 rfl) ?_
    exact W.zret (v := (nI (bN x))) hx hb hr (by cases x <;> rfl) (fun t ht hW => ⟨⟨(nI (bN x)), ce1, rfl, ⟨rfl, (fun j g0 => fr2 j g0), by rw [hx9]; exact q1⟩, by rw [ht]; exact hP, va_K.moved hW.alike hK, hD⟩, hS.F ht⟩) hS.2.2 dM_refuse_10

set_option maxHeartbeats 4000000 in
set_option maxRecDepth 100000 in
theorem c_M_add (l : Launch) (D : va_G) (cI cO cJ : ClassId) (N : Nat) (ad : Nat → Nat) (ce : Nat → va_E) (sz : Nat) (hN : 40 ≤ N) (th : Int32) (rs bu tl : Nat) (h0 : ce 34 = .inr (3, [.int (th), .ref (ad 35), .ref (ad 36), .ref (ad 37), .ref (ad 38), .ref (ad 39), .int (nI rs), .int (nI bu), .int (nI tl)])) (mrow : Nat → Int32) (h1 : ce 35 = .inl (cI, 4000, .inl mrow)) (hrs : rs ≤ 3997) (a1 a2 a3 : Int32) : Met l yM_add (.code yM_add bM_add 4 (some .int) :: WA) ({ frames := 1, cells := 0, slots := 0, locals := 22 }) (PM D (TY cI cO cJ) N ad ce sz [.ref (ad 34), .int (a1), .int (a2), .int (a3)]) (va_Qi (fun (r : Int32) (ce1 : Nat → va_E) => r = nI (rs + 3) ∧ (∀ j, j ≠ 34 → j ≠ 35 → ce1 j = ce j) ∧ ce1 34 = .inr (3, [.int (nI 0), .ref (ad 35), .ref (ad 36), .ref (ad 37), .ref (ad 38), .ref (ad 39), .int (nI (rs + 3)), .int (nI bu), .int (nI tl)]) ∧ ce1 35 = .inl (cI, 4000, .inl (upd (upd (upd mrow rs (nI (m9 a1))) (rs + 1) (nI (m9 a2))) (rs + 2) (nI (m9 a3))))) (BW D (TY cI cO cJ) N ad (AW N ad sz)) (AW N ad sz)) 0 0 (AW N ad sz) := by
  refine Met.ofW (cc := bM_add) (maxL := 4) (ret := (some .int)) (by decide) rfl ?_
  intro p e s m args below meth c s₁ B hml hv
  obtain ⟨rfl, hsz, hP, hK, hD0⟩ := hv
  have hx := B.exec
  have hb := B.bytes
  have hr := B.returns
  have hA9 : ∀ w ∈ WA, w.before _ s = true := fun w h => atoms_spec (ws := .code yM_add bM_add 4 (some .int) :: WA) B.pre w (List.mem_cons_of_mem _ h)
  have hown : s.vm.findClass RM = some m.cls := findClass_of_methodNamed B.named
  have hlocks := B.notSynchronized
  subst hsz
  have hD := aw_D (sz := s.heap.size) hD0
  generalize hAe : AW N ad s.heap.size = A at hD ⊢
  have hA : ∀ q, s.heap.size ≤ q → A q := fun q h => by rw [← hAe]; exact Or.inr h
  clear hAe hD0
  have hl := lv_entry ([.ref (ad 34), .int (a1), .int (a2), .int (a3)]) (n := 4) (Nat.le_of_ble_eq_true rfl)
  rw [lg_entry_eq]
  generalize (lg_sl ([.ref (ad 34), .int (a1), .int (a2), .int (a3)]) ++ List.replicate (4 - (lg_sl ([.ref (ad 34), .int (a1), .int (a2), .int (a3)])).length) Slot.unset).toArray = ls at hl ⊢
  have hl : lv_has ls 4 [(0, .ref (ad 34)), (1, .int (a1)), (2, .int (a2)), (3, .int (a3))] := hl
  refine st0 (A := A) (fun H locs hS hH => ?_)
  rw [← hH] at hP
  clear hH
  refine lv_aload_n hx hb dM_add_0 rfl (lv_at hl 0 rfl) ?_
  refine lv_iconst (v := nI 0) hx hb dM_add_1 (by decide +kernel) ?_
  refine va_put (D := D) (ci := 3) (v := .int (nI 0)) (ty := .int) (C := RM) (T := TM) (N := 9) hx hb hA9 inM tyM tyM_ok nmM hown hK hP hD hS 34 (wx_at (by omega) h0) rfl 0 (by decide) (hA9 _ mfM_7) (fun _ h9 => h9) rfl (by decide +kernel) rfl rfl (Nat.le_of_ble_eq_true rfl) dM_add_2 (fun H locs hP hD hS => ?_)
  replace hP : va_P D CLS ((wx N ad ce).set 34 (ad 34, .inr (3, [.int (nI 0), .ref (ad 35), .ref (ad 36), .ref (ad 37), .ref (ad 38), .ref (ad 39), .int (nI rs), .int (nI bu), .int (nI tl)]))) H := hP
  replace hD : va_D A ((wx N ad ce).set 34 (ad 34, .inr (3, [.int (nI 0), .ref (ad 35), .ref (ad 36), .ref (ad 37), .ref (ad 38), .ref (ad 39), .int (nI rs), .int (nI bu), .int (nI tl)]))) := hD
  obtain ⟨ce1, hce1⟩ : ∃ z9, z9 = va_up ce 34 (.inr (3, [.int (nI 0), .ref (ad 35), .ref (ad 36), .ref (ad 37), .ref (ad 38), .ref (ad 39), .int (nI rs), .int (nI bu), .int (nI tl)])) := ⟨_, rfl⟩
  rw [wx_set (by omega), ← hce1] at hP hD
  have q1 : ce1 35 = .inl (cI, 4000, .inl mrow) := by rw [hce1, va_up_ne _ _ (by omega)]; exact h1
  have q2 : ce1 34 = .inr (3, [.int (nI 0), .ref (ad 35), .ref (ad 36), .ref (ad 37), .ref (ad 38), .ref (ad 39), .int (nI rs), .int (nI bu), .int (nI tl)]) := by rw [hce1, va_up_self]
  have fr3 : ∀ j, j ≠ 34 → ce1 j = ce j := fun j h0 => by rw [hce1, va_up_ne _ _ h0]
  refine lv_aload_n hx hb dM_add_5 rfl (lv_at hl 0 rfl) ?_
  refine lv_iconst (v := nI 1) hx hb dM_add_6 (by decide +kernel) ?_
  refine lv_aload_n hx hb dM_add_7 rfl (lv_at hl 0 rfl) ?_
  refine va_get (D := D) (ci := 3) (v := .int (nI rs)) (C := RM) (T := TM) (N := 9) hx hb hA9 inM hown hK hP 34 (wx_at (by omega) q2) rfl 6 (by decide) (hA9 _ mfM_29) (fun _ h9 => h9) rfl dM_add_8 ?_
  refine lv_sipush (v := nI 3997) hx hb dM_add_11 (by decide +kernel) ?_
  refine lv_icmp_le (tgt := 21) hx hb dM_add_14 (by decide) (fun c14 => ?_) (fun c14 => ?_)
  · skip
    refine lv_iconst (v := nI (bN false)) hx hb dM_add_21 (by decide +kernel) ?_
    refine cvi (va_runV (As := [.int (nI 1), .int (nI (bN false))]) (rest := []) ⟨hx, hb, hml, hown, hA9⟩ (c_M_refuse l D cI cO cJ N ad ce1 H.size hN (nI 0) rs bu tl q2 1 false) (cwV 2 hA9 (gV mlM_38 miM_refuse msM_refuse mn_M mkM_refuse) rfl rfl rfl (by decide +kernel) ⟨Nat.le_of_ble_eq_true rfl, Nat.le_of_ble_eq_true rfl⟩) ⟨PM_bl, wx_recv hK hP (by omega) q2 rfl, PM_mk hK hP hD⟩ rfl rfl hl.1 rfl (lv_room (Nat.le_of_ble_eq_true rfl)) dM_add_22 ⟨Nat.le_of_ble_eq_true rfl, Nat.le_of_ble_eq_true rfl⟩) hS hD hA (fun r4 ce2 H locs hpost hP hD hS => ?_)
    obtain ⟨rfl, rf, rz⟩ := hpost
    have q5 : ce2 34 = .inr (3, [.int (nI 0), .ref (ad 35), .ref (ad 36), .ref (ad 37), .ref (ad 38), .ref (ad 39), .int (nI rs), .int (nI bu), .int (nI tl)]) := rz
    have q6 : ce2 35 = .inl (cI, 4000, .inl mrow) := (rf 35 (by omega)).trans q1
    have fr7 : ∀ j, j ≠ 34 → ce2 j = ce j := fun j g0 => (rf j g0).trans (fr3 j g0)
    refine lv_if_eq (tgt := 30) hx hb dM_add_25 (by decide) (fun c25 => ?_) (fun c25 => ?_)
    · skip
      refine lv_aload_n hx hb dM_add_30 rfl (lv_at hl 0 rfl) ?_
      refine va_get (D := D) (ci := 3) (v := .ref (ad 35)) (C := RM) (T := TM) (N := 9) hx hb hA9 inM hown hK hP 34 (wx_at (by omega) q5) rfl 1 (by decide) (hA9 _ mfM_13) (fun _ h9 => h9) rfl dM_add_31 ?_
      refine lv_aload_n hx hb dM_add_34 rfl (lv_at hl 0 rfl) ?_
      refine lv_dup hx hb dM_add_35 rfl ?_
      refine va_get (D := D) (ci := 3) (v := .int (nI rs)) (C := RM) (T := TM) (N := 9) hx hb hA9 inM hown hK hP 34 (wx_at (by omega) q5) rfl 6 (by decide) (hA9 _ mfM_29) (fun _ h9 => h9) rfl dM_add_36 ?_
      refine lv_dup_x1 hx hb dM_add_39 rfl rfl ?_
      refine lv_iconst (v := nI 1) hx hb dM_add_40 (by decide +kernel) ?_
      refine lv_iadd hx hb dM_add_41 ?_
      refine lv_topi (fun z8 ez8 => ?_)
      obtain rfl : z8 = nI (rs + 1) := by rw [ez8]; exact nI_add _ _
      refine va_put (D := D) (ci := 3) (v := .int (nI (rs + 1))) (ty := .int) (C := RM) (T := TM) (N := 9) hx hb hA9 inM tyM tyM_ok nmM hown hK hP hD hS 34 (wx_at (by omega) q5) rfl 6 (by decide) (hA9 _ mfM_29) (fun _ h9 => h9) rfl (by decide +kernel) rfl rfl (Nat.le_of_ble_eq_true rfl) dM_add_42 (fun H locs hP hD hS => ?_)
      replace hP : va_P D CLS ((wx N ad ce2).set 34 (ad 34, .inr (3, [.int (nI 0), .ref (ad 35), .ref (ad 36), .ref (ad 37), .ref (ad 38), .ref (ad 39), .int (nI (rs + 1)), .int (nI bu), .int (nI tl)]))) H := hP
      replace hD : va_D A ((wx N ad ce2).set 34 (ad 34, .inr (3, [.int (nI 0), .ref (ad 35), .ref (ad 36), .ref (ad 37), .ref (ad 38), .ref (ad 39), .int (nI (rs + 1)), .int (nI bu), .int (nI tl)]))) := hD
      obtain ⟨ce3, hce3⟩ : ∃ z9, z9 = va_up ce2 34 (.inr (3, [.int (nI 0), .ref (ad 35), .ref (ad 36), .ref (ad 37), .ref (ad 38), .ref (ad 39), .int (nI (rs + 1)), .int (nI bu), .int (nI tl)])) := ⟨_, rfl⟩
      rw [wx_set (by omega), ← hce3] at hP hD
      have q9 : ce3 35 = .inl (cI, 4000, .inl mrow) := by rw [hce3, va_up_ne _ _ (by omega)]; exact q6
      have q10 : ce3 34 = .inr (3, [.int (nI 0), .ref (ad 35), .ref (ad 36), .ref (ad 37), .ref (ad 38), .ref (ad 39), .int (nI (rs + 1)), .int (nI bu), .int (nI tl)]) := by rw [hce3, va_up_self]
      have fr11 : ∀ j, j ≠ 34 → ce3 j = ce j := fun j h0 => by rw [hce3, va_up_ne _ _ h0]; exact fr7 j h0
      refine lv_iload_n hx hb dM_add_45 rfl (lv_at hl 1 rfl) ?_
      refine lv_sipush (v := nI 511) hx hb dM_add_46 (by decide +kernel) ?_
      refine lv_iand hx hb dM_add_49 ?_
      refine lv_topi (fun z12 ez12 => ?_)
      obtain rfl : z12 = nI (m9 a1) := by rw [ez12]; exact and511 _
      refine va_iast hx hb hK hP hD hS 35 0 (wx_at (by omega) q9) rfl (inN) dM_add_50 (fun H locs hP hD hS => ?_)
      rw [clN (a := rs)] at hP hD
      obtain ⟨ce4, hce4⟩ : ∃ z9, z9 = va_up ce3 35 (.inl (cI, 4000, .inl (upd mrow rs (nI (m9 a1))))) := ⟨_, rfl⟩
      rw [wx_set (by omega), ← hce4] at hP hD
      have q13 : ce4 34 = .inr (3, [.int (nI 0), .ref (ad 35), .ref (ad 36), .ref (ad 37), .ref (ad 38), .ref (ad 39), .int (nI (rs + 1)), .int (nI bu), .int (nI tl)]) := by rw [hce4, va_up_ne _ _ (by omega)]; exact q10
      have q14 : ce4 35 = .inl (cI, 4000, .inl (upd mrow rs (nI (m9 a1)))) := by rw [hce4, va_up_self]
      have fr15 : ∀ j, j ≠ 34 → j ≠ 35 → ce4 j = ce j := fun j h0 h1 => by rw [hce4, va_up_ne _ _ h1]; exact fr11 j h0
      refine lv_aload_n hx hb dM_add_51 rfl (lv_at hl 0 rfl) ?_
      refine va_get (D := D) (ci := 3) (v := .ref (ad 35)) (C := RM) (T := TM) (N := 9) hx hb hA9 inM hown hK hP 34 (wx_at (by omega) q13) rfl 1 (by decide) (hA9 _ mfM_13) (fun _ h9 => h9) rfl dM_add_52 ?_
      refine lv_aload_n hx hb dM_add_55 rfl (lv_at hl 0 rfl) ?_
      refine lv_dup hx hb dM_add_56 rfl ?_
      refine va_get (D := D) (ci := 3) (v := .int (nI (rs + 1))) (C := RM) (T := TM) (N := 9) hx hb hA9 inM hown hK hP 34 (wx_at (by omega) q13) rfl 6 (by decide) (hA9 _ mfM_29) (fun _ h9 => h9) rfl dM_add_57 ?_
      refine lv_dup_x1 hx hb dM_add_60 rfl rfl ?_
      refine lv_iconst (v := nI 1) hx hb dM_add_61 (by decide +kernel) ?_
      refine lv_iadd hx hb dM_add_62 ?_
      refine lv_topi (fun z16 ez16 => ?_)
      obtain rfl : z16 = nI (rs + 2) := by rw [ez16]; exact nI_add _ _
      refine va_put (D := D) (ci := 3) (v := .int (nI (rs + 2))) (ty := .int) (C := RM) (T := TM) (N := 9) hx hb hA9 inM tyM tyM_ok nmM hown hK hP hD hS 34 (wx_at (by omega) q13) rfl 6 (by decide) (hA9 _ mfM_29) (fun _ h9 => h9) rfl (by decide +kernel) rfl rfl (Nat.le_of_ble_eq_true rfl) dM_add_63 (fun H locs hP hD hS => ?_)
      replace hP : va_P D CLS ((wx N ad ce4).set 34 (ad 34, .inr (3, [.int (nI 0), .ref (ad 35), .ref (ad 36), .ref (ad 37), .ref (ad 38), .ref (ad 39), .int (nI (rs + 2)), .int (nI bu), .int (nI tl)]))) H := hP
      replace hD : va_D A ((wx N ad ce4).set 34 (ad 34, .inr (3, [.int (nI 0), .ref (ad 35), .ref (ad 36), .ref (ad 37), .ref (ad 38), .ref (ad 39), .int (nI (rs + 2)), .int (nI bu), .int (nI tl)]))) := hD
      obtain ⟨ce5, hce5⟩ : ∃ z9, z9 = va_up ce4 34 (.inr (3, [.int (nI 0), .ref (ad 35), .ref (ad 36), .ref (ad 37), .ref (ad 38), .ref (ad 39), .int (nI (rs + 2)), .int (nI bu), .int (nI tl)])) := ⟨_, rfl⟩
      rw [wx_set (by omega), ← hce5] at hP hD
      have q17 : ce5 35 = .inl (cI, 4000, .inl (upd mrow rs (nI (m9 a1)))) := by rw [hce5, va_up_ne _ _ (by omega)]; exact q14
      have q18 : ce5 34 = .inr (3, [.int (nI 0), .ref (ad 35), .ref (ad 36), .ref (ad 37), .ref (ad 38), .ref (ad 39), .int (nI (rs + 2)), .int (nI bu), .int (nI tl)]) := by rw [hce5, va_up_self]
      have fr19 : ∀ j, j ≠ 34 → j ≠ 35 → ce5 j = ce j := fun j h0 h1 => by rw [hce5, va_up_ne _ _ h0]; exact fr15 j h0 h1
      refine lv_iload_n hx hb dM_add_66 rfl (lv_at hl 2 rfl) ?_
      refine lv_sipush (v := nI 511) hx hb dM_add_67 (by decide +kernel) ?_
      refine lv_iand hx hb dM_add_70 ?_
      refine lv_topi (fun z20 ez20 => ?_)
      obtain rfl : z20 = nI (m9 a2) := by rw [ez20]; exact and511 _
      refine va_iast hx hb hK hP hD hS 35 0 (wx_at (by omega) q17) rfl (inN) dM_add_71 (fun H locs hP hD hS => ?_)
      rw [clN (a := (rs + 1))] at hP hD
      obtain ⟨ce6, hce6⟩ : ∃ z9, z9 = va_up ce5 35 (.inl (cI, 4000, .inl (upd (upd mrow rs (nI (m9 a1))) (rs + 1) (nI (m9 a2))))) := ⟨_, rfl⟩
      rw [wx_set (by omega), ← hce6] at hP hD
      have q21 : ce6 34 = .inr (3, [.int (nI 0), .ref (ad 35), .ref (ad 36), .ref (ad 37), .ref (ad 38), .ref (ad 39), .int (nI (rs + 2)), .int (nI bu), .int (nI tl)]) := by rw [hce6, va_up_ne _ _ (by omega)]; exact q18
      have q22 : ce6 35 = .inl (cI, 4000, .inl (upd (upd mrow rs (nI (m9 a1))) (rs + 1) (nI (m9 a2)))) := by rw [hce6, va_up_self]
      have fr23 : ∀ j, j ≠ 34 → j ≠ 35 → ce6 j = ce j := fun j h0 h1 => by rw [hce6, va_up_ne _ _ h1]; exact fr19 j h0 h1
      refine lv_aload_n hx hb dM_add_72 rfl (lv_at hl 0 rfl) ?_
      refine va_get (D := D) (ci := 3) (v := .ref (ad 35)) (C := RM) (T := TM) (N := 9) hx hb hA9 inM hown hK hP 34 (wx_at (by omega) q21) rfl 1 (by decide) (hA9 _ mfM_13) (fun _ h9 => h9) rfl dM_add_73 ?_
      refine lv_aload_n hx hb dM_add_76 rfl (lv_at hl 0 rfl) ?_
      refine lv_dup hx hb dM_add_77 rfl ?_
      refine va_get (D := D) (ci := 3) (v := .int (nI (rs + 2))) (C := RM) (T := TM) (N := 9) hx hb hA9 inM hown hK hP 34 (wx_at (by omega) q21) rfl 6 (by decide) (hA9 _ mfM_29) (fun _ h9 => h9) rfl dM_add_78 ?_
      refine lv_dup_x1 hx hb dM_add_81 rfl rfl ?_
      refine lv_iconst (v := nI 1) hx hb dM_add_82 (by decide +kernel) ?_
      refine lv_iadd hx hb dM_add_83 ?_
      refine lv_topi (fun z24 ez24 => ?_)
      obtain rfl : z24 = nI (rs + 3) := by rw [ez24]; exact nI_add _ _
      refine va_put (D := D) (ci := 3) (v := .int (nI (rs + 3))) (ty := .int) (C := RM) (T := TM) (N := 9) hx hb hA9 inM tyM tyM_ok nmM hown hK hP hD hS 34 (wx_at (by omega) q21) rfl 6 (by decide) (hA9 _ mfM_29) (fun _ h9 => h9) rfl (by decide +kernel) rfl rfl (Nat.le_of_ble_eq_true rfl) dM_add_84 (fun H locs hP hD hS => ?_)
      replace hP : va_P D CLS ((wx N ad ce6).set 34 (ad 34, .inr (3, [.int (nI 0), .ref (ad 35), .ref (ad 36), .ref (ad 37), .ref (ad 38), .ref (ad 39), .int (nI (rs + 3)), .int (nI bu), .int (nI tl)]))) H := hP
      replace hD : va_D A ((wx N ad ce6).set 34 (ad 34, .inr (3, [.int (nI 0), .ref (ad 35), .ref (ad 36), .ref (ad 37), .ref (ad 38), .ref (ad 39), .int (nI (rs + 3)), .int (nI bu), .int (nI tl)]))) := hD
      obtain ⟨ce7, hce7⟩ : ∃ z9, z9 = va_up ce6 34 (.inr (3, [.int (nI 0), .ref (ad 35), .ref (ad 36), .ref (ad 37), .ref (ad 38), .ref (ad 39), .int (nI (rs + 3)), .int (nI bu), .int (nI tl)])) := ⟨_, rfl⟩
      rw [wx_set (by omega), ← hce7] at hP hD
      have q25 : ce7 35 = .inl (cI, 4000, .inl (upd (upd mrow rs (nI (m9 a1))) (rs + 1) (nI (m9 a2)))) := by rw [hce7, va_up_ne _ _ (by omega)]; exact q22
      have q26 : ce7 34 = .inr (3, [.int (nI 0), .ref (ad 35), .ref (ad 36), .ref (ad 37), .ref (ad 38), .ref (ad 39), .int (nI (rs + 3)), .int (nI bu), .int (nI tl)]) := by rw [hce7, va_up_self]
      have fr27 : ∀ j, j ≠ 34 → j ≠ 35 → ce7 j = ce j := fun j h0 h1 => by rw [hce7, va_up_ne _ _ h0]; exact fr23 j h0 h1
      refine lv_iload_n hx hb dM_add_87 rfl (lv_at hl 3 rfl) ?_
      refine lv_sipush (v := nI 511) hx hb dM_add_88 (by decide +kernel) ?_
      refine lv_iand hx hb dM_add_91 ?_
      refine lv_topi (fun z28 ez28 => ?_)
      obtain rfl : z28 = nI (m9 a3) := by rw [ez28]; exact and511 _
      refine va_iast hx hb hK hP hD hS 35 0 (wx_at (by omega) q25) rfl (inN) dM_add_92 (fun H locs hP hD hS => ?_)
      rw [clN (a := (rs + 2))] at hP hD
      obtain ⟨ce8, hce8⟩ : ∃ z9, z9 = va_up ce7 35 (.inl (cI, 4000, .inl (upd (upd (upd mrow rs (nI (m9 a1))) (rs + 1) (nI (m9 a2))) (rs + 2) (nI (m9 a3))))) := ⟨_, rfl⟩
      rw [wx_set (by omega), ← hce8] at hP hD
      have q29 : ce8 34 = .inr (3, [.int (nI 0), .ref (ad 35), .ref (ad 36), .ref (ad 37), .ref (ad 38), .ref (ad 39), .int (nI (rs + 3)), .int (nI bu), .int (nI tl)]) := by rw [hce8, va_up_ne _ _ (by omega)]; exact q26
      have q30 : ce8 35 = .inl (cI, 4000, .inl (upd (upd (upd mrow rs (nI (m9 a1))) (rs + 1) (nI (m9 a2))) (rs + 2) (nI (m9 a3)))) := by rw [hce8, va_up_self]
      have fr31 : ∀ j, j ≠ 34 → j ≠ 35 → ce8 j = ce j := fun j h0 h1 => by rw [hce8, va_up_ne _ _ h1]; exact fr27 j h0 h1
      refine lv_aload_n hx hb dM_add_93 rfl (lv_at hl 0 rfl) ?_
      refine va_get (D := D) (ci := 3) (v := .int (nI (rs + 3))) (C := RM) (T := TM) (N := 9) hx hb hA9 inM hown hK hP 34 (wx_at (by omega) q29) rfl 6 (by decide) (hA9 _ mfM_29) (fun _ h9 => h9) rfl dM_add_94 ?_
      exact W.iret (v := (nI (rs + 3))) hx hb hr (fun t ht hW => ⟨⟨(nI (rs + 3)), ce8, rfl, ⟨rfl, (fun j g0 g1 => fr31 j g0 g1), q29, q30⟩, by rw [ht]; exact hP, va_K.moved hW.alike hK, hD⟩, hS.F ht⟩) hS.2.2 dM_add_97
    · skip
      exact absurd (show nI (bN false) = 0 from nI_0) c25
  · skip
    exact absurd (nI_le hrs (by omega)) c14

set_option maxHeartbeats 4000000 in
set_option maxRecDepth 100000 in
theorem c_M_cut (l : Launch) (D : va_G) (cI cO cJ : ClassId) (N : Nat) (ad : Nat → Nat) (ce : Nat → va_E) (sz : Nat) (hN : 40 ≤ N) (th : Int32) (rs bu tl : Nat) (h0 : ce 34 = .inr (3, [.int (th), .ref (ad 35), .ref (ad 36), .ref (ad 37), .ref (ad 38), .ref (ad 39), .int (nI rs), .int (nI bu), .int (nI tl)])) (hrs : rs ≤ 4000) (x : Int32) : Met l yM_cut (.code yM_cut bM_cut 2 (some .int) :: WA) ({ frames := 1, cells := 0, slots := 0, locals := 22 }) (PM D (TY cI cO cJ) N ad ce sz [.ref (ad 34), .int (x)]) (va_Qi (fun (r : Int32) (ce1 : Nat → va_E) => (∀ j, j ≠ 34 → ce1 j = ce j) ∧ ((∃ k, k ≤ rs ∧ x = nI k ∧ r = nI k ∧ ce1 34 = .inr (3, [.int (nI 0), .ref (ad 35), .ref (ad 36), .ref (ad 37), .ref (ad 38), .ref (ad 39), .int (nI k), .int (nI bu), .int (nI tl)])) ∨ (¬ (∃ k, k ≤ rs ∧ x = nI k) ∧ r = nI 0 ∧ ce1 34 = .inr (3, [.int (nI 1), .ref (ad 35), .ref (ad 36), .ref (ad 37), .ref (ad 38), .ref (ad 39), .int (nI rs), .int (nI bu), .int (nI tl)])))) (BW D (TY cI cO cJ) N ad (AW N ad sz)) (AW N ad sz)) 0 0 (AW N ad sz) := by
  refine Met.ofW (cc := bM_cut) (maxL := 2) (ret := (some .int)) (by decide) rfl ?_
  intro p e s m args below meth c s₁ B hml hv
  obtain ⟨rfl, hsz, hP, hK, hD0⟩ := hv
  have hx := B.exec
  have hb := B.bytes
  have hr := B.returns
  have hA9 : ∀ w ∈ WA, w.before _ s = true := fun w h => atoms_spec (ws := .code yM_cut bM_cut 2 (some .int) :: WA) B.pre w (List.mem_cons_of_mem _ h)
  have hown : s.vm.findClass RM = some m.cls := findClass_of_methodNamed B.named
  have hlocks := B.notSynchronized
  subst hsz
  have hD := aw_D (sz := s.heap.size) hD0
  generalize hAe : AW N ad s.heap.size = A at hD ⊢
  have hA : ∀ q, s.heap.size ≤ q → A q := fun q h => by rw [← hAe]; exact Or.inr h
  clear hAe hD0
  have hl := lv_entry ([.ref (ad 34), .int (x)]) (n := 2) (Nat.le_of_ble_eq_true rfl)
  rw [lg_entry_eq]
  generalize (lg_sl ([.ref (ad 34), .int (x)]) ++ List.replicate (2 - (lg_sl ([.ref (ad 34), .int (x)])).length) Slot.unset).toArray = ls at hl ⊢
  have hl : lv_has ls 2 [(0, .ref (ad 34)), (1, .int (x))] := hl
  refine st0 (A := A) (fun H locs hS hH => ?_)
  rw [← hH] at hP
  clear hH
  refine lv_aload_n hx hb dM_cut_0 rfl (lv_at hl 0 rfl) ?_
  refine lv_iconst (v := nI 0) hx hb dM_cut_1 (by decide +kernel) ?_
  refine va_put (D := D) (ci := 3) (v := .int (nI 0)) (ty := .int) (C := RM) (T := TM) (N := 9) hx hb hA9 inM tyM tyM_ok nmM hown hK hP hD hS 34 (wx_at (by omega) h0) rfl 0 (by decide) (hA9 _ mfM_7) (fun _ h9 => h9) rfl (by decide +kernel) rfl rfl (Nat.le_of_ble_eq_true rfl) dM_cut_2 (fun H locs hP hD hS => ?_)
  replace hP : va_P D CLS ((wx N ad ce).set 34 (ad 34, .inr (3, [.int (nI 0), .ref (ad 35), .ref (ad 36), .ref (ad 37), .ref (ad 38), .ref (ad 39), .int (nI rs), .int (nI bu), .int (nI tl)]))) H := hP
  replace hD : va_D A ((wx N ad ce).set 34 (ad 34, .inr (3, [.int (nI 0), .ref (ad 35), .ref (ad 36), .ref (ad 37), .ref (ad 38), .ref (ad 39), .int (nI rs), .int (nI bu), .int (nI tl)]))) := hD
  obtain ⟨ce1, hce1⟩ : ∃ z9, z9 = va_up ce 34 (.inr (3, [.int (nI 0), .ref (ad 35), .ref (ad 36), .ref (ad 37), .ref (ad 38), .ref (ad 39), .int (nI rs), .int (nI bu), .int (nI tl)])) := ⟨_, rfl⟩
  rw [wx_set (by omega), ← hce1] at hP hD
  have q1 : ce1 34 = .inr (3, [.int (nI 0), .ref (ad 35), .ref (ad 36), .ref (ad 37), .ref (ad 38), .ref (ad 39), .int (nI rs), .int (nI bu), .int (nI tl)]) := by rw [hce1, va_up_self]
  have fr2 : ∀ j, j ≠ 34 → ce1 j = ce j := fun j h0 => by rw [hce1, va_up_ne _ _ h0]
  refine lv_aload_n hx hb dM_cut_5 rfl (lv_at hl 0 rfl) ?_
  refine lv_iconst (v := nI 1) hx hb dM_cut_6 (by decide +kernel) ?_
  refine lv_iload_n hx hb dM_cut_7 rfl (lv_at hl 1 rfl) ?_
  refine lv_if_lt (tgt := 19) hx hb dM_cut_8 (by decide) (fun c8 => ?_) (fun c8 => ?_)
  · skip
    have no : ¬ ∃ k, k ≤ rs ∧ x = nI k := fun ⟨k, h1, h2⟩ => neg_n c8 h2
    refine lv_iconst (v := nI (bN true)) hx hb dM_cut_19 (by decide +kernel) ?_
    refine lv_goto (tgt := 24) hx hb dM_cut_20 (by decide) ?_
    refine cvi (va_runV (As := [.int (nI 1), .int (nI (bN true))]) (rest := []) ⟨hx, hb, hml, hown, hA9⟩ (c_M_refuse l D cI cO cJ N ad ce1 H.size hN (nI 0) rs bu tl q1 1 true) (cwV 2 hA9 (gV mlM_38 miM_refuse msM_refuse mn_M mkM_refuse) rfl rfl rfl (by decide +kernel) ⟨Nat.le_of_ble_eq_true rfl, Nat.le_of_ble_eq_true rfl⟩) ⟨PM_bl, wx_recv hK hP (by omega) q1 rfl, PM_mk hK hP hD⟩ rfl rfl hl.1 rfl (lv_room (Nat.le_of_ble_eq_true rfl)) dM_cut_24 ⟨Nat.le_of_ble_eq_true rfl, Nat.le_of_ble_eq_true rfl⟩) hS hD hA (fun r3 ce2 H locs hpost hP hD hS => ?_)
    obtain ⟨rfl, rf, rz⟩ := hpost
    have q4 : ce2 34 = .inr (3, [.int (nI 1), .ref (ad 35), .ref (ad 36), .ref (ad 37), .ref (ad 38), .ref (ad 39), .int (nI rs), .int (nI bu), .int (nI tl)]) := rz
    have fr5 : ∀ j, j ≠ 34 → ce2 j = ce j := fun j g0 => (rf j g0).trans (fr2 j g0)
    refine lv_if_eq (tgt := 32) hx hb dM_cut_27 (by decide) (fun c27 => ?_) (fun c27 => ?_)
    · skip
      exact absurd c27 (by decide +kernel)
    · skip
      refine lv_iconst (v := nI 0) hx hb dM_cut_30 (by decide +kernel) ?_
      exact W.iret (v := (nI 0)) hx hb hr (fun t ht hW => ⟨⟨(nI 0), ce2, rfl, ⟨(fun j g0 => fr5 j g0), Or.inr ⟨no, rfl, q4⟩⟩, by rw [ht]; exact hP, va_K.moved hW.alike hK, hD⟩, hS.F ht⟩) hS.2.2 dM_cut_31
  · skip
    refine lv_iload_n hx hb dM_cut_11 rfl (lv_at hl 1 rfl) ?_
    refine lv_aload_n hx hb dM_cut_12 rfl (lv_at hl 0 rfl) ?_
    refine va_get (D := D) (ci := 3) (v := .int (nI rs)) (C := RM) (T := TM) (N := 9) hx hb hA9 inM hown hK hP 34 (wx_at (by omega) q1) rfl 6 (by decide) (hA9 _ mfM_29) (fun _ h9 => h9) rfl dM_cut_13 ?_
    refine lv_icmp_le (tgt := 23) hx hb dM_cut_16 (by decide) (fun c16 => ?_) (fun c16 => ?_)
    · skip
      obtain ⟨k, hk, rfl⟩ := rg_mk c8 c16
      refine lv_iconst (v := nI (bN false)) hx hb dM_cut_23 (by decide +kernel) ?_
      refine cvi (va_runV (As := [.int (nI 1), .int (nI (bN false))]) (rest := []) ⟨hx, hb, hml, hown, hA9⟩ (c_M_refuse l D cI cO cJ N ad ce1 H.size hN (nI 0) rs bu tl q1 1 false) (cwV 2 hA9 (gV mlM_38 miM_refuse msM_refuse mn_M mkM_refuse) rfl rfl rfl (by decide +kernel) ⟨Nat.le_of_ble_eq_true rfl, Nat.le_of_ble_eq_true rfl⟩) ⟨PM_bl, wx_recv hK hP (by omega) q1 rfl, PM_mk hK hP hD⟩ rfl rfl hl.1 rfl (lv_room (Nat.le_of_ble_eq_true rfl)) dM_cut_24 ⟨Nat.le_of_ble_eq_true rfl, Nat.le_of_ble_eq_true rfl⟩) hS hD hA (fun r6 ce2 H locs hpost hP hD hS => ?_)
      obtain ⟨rfl, rf, rz⟩ := hpost
      have q7 : ce2 34 = .inr (3, [.int (nI 0), .ref (ad 35), .ref (ad 36), .ref (ad 37), .ref (ad 38), .ref (ad 39), .int (nI rs), .int (nI bu), .int (nI tl)]) := rz
      have fr8 : ∀ j, j ≠ 34 → ce2 j = ce j := fun j g0 => (rf j g0).trans (fr2 j g0)
      refine lv_if_eq (tgt := 32) hx hb dM_cut_27 (by decide) (fun c27 => ?_) (fun c27 => ?_)
      · skip
        refine lv_aload_n hx hb dM_cut_32 rfl (lv_at hl 0 rfl) ?_
        refine lv_iload_n hx hb dM_cut_33 rfl (lv_at hl 1 rfl) ?_
        refine va_put (D := D) (ci := 3) (v := .int (nI k)) (ty := .int) (C := RM) (T := TM) (N := 9) hx hb hA9 inM tyM tyM_ok nmM hown hK hP hD hS 34 (wx_at (by omega) q7) rfl 6 (by decide) (hA9 _ mfM_29) (fun _ h9 => h9) rfl (by decide +kernel) rfl rfl (Nat.le_of_ble_eq_true rfl) dM_cut_34 (fun H locs hP hD hS => ?_)
        replace hP : va_P D CLS ((wx N ad ce2).set 34 (ad 34, .inr (3, [.int (nI 0), .ref (ad 35), .ref (ad 36), .ref (ad 37), .ref (ad 38), .ref (ad 39), .int (nI k), .int (nI bu), .int (nI tl)]))) H := hP
        replace hD : va_D A ((wx N ad ce2).set 34 (ad 34, .inr (3, [.int (nI 0), .ref (ad 35), .ref (ad 36), .ref (ad 37), .ref (ad 38), .ref (ad 39), .int (nI k), .int (nI bu), .int (nI tl)]))) := hD
        obtain ⟨ce3, hce3⟩ : ∃ z9, z9 = va_up ce2 34 (.inr (3, [.int (nI 0), .ref (ad 35), .ref (ad 36), .ref (ad 37), .ref (ad 38), .ref (ad 39), .int (nI k), .int (nI bu), .int (nI tl)])) := ⟨_, rfl⟩
        rw [wx_set (by omega), ← hce3] at hP hD
        have q9 : ce3 34 = .inr (3, [.int (nI 0), .ref (ad 35), .ref (ad 36), .ref (ad 37), .ref (ad 38), .ref (ad 39), .int (nI k), .int (nI bu), .int (nI tl)]) := by rw [hce3, va_up_self]
        have fr10 : ∀ j, j ≠ 34 → ce3 j = ce j := fun j h0 => by rw [hce3, va_up_ne _ _ h0]; exact fr8 j h0
        refine lv_iload_n hx hb dM_cut_37 rfl (lv_at hl 1 rfl) ?_
        exact W.iret (v := (nI k)) hx hb hr (fun t ht hW => ⟨⟨(nI k), ce3, rfl, ⟨(fun j g0 => fr10 j g0), Or.inl ⟨k, hk, rfl, rfl, q9⟩⟩, by rw [ht]; exact hP, va_K.moved hW.alike hK, hD⟩, hS.F ht⟩) hS.2.2 dM_cut_38
      · skip
        exact absurd (show nI (bN false) = 0 from nI_0) c27
    · skip
      have no : ¬ ∃ k, k ≤ rs ∧ x = nI k := fun ⟨k, h1, h2⟩ => c16 (by rw [h2]; exact nI_le h1 (by omega))
      refine lv_iconst (v := nI (bN true)) hx hb dM_cut_19 (by decide +kernel) ?_
      refine lv_goto (tgt := 24) hx hb dM_cut_20 (by decide) ?_
      refine cvi (va_runV (As := [.int (nI 1), .int (nI (bN true))]) (rest := []) ⟨hx, hb, hml, hown, hA9⟩ (c_M_refuse l D cI cO cJ N ad ce1 H.size hN (nI 0) rs bu tl q1 1 true) (cwV 2 hA9 (gV mlM_38 miM_refuse msM_refuse mn_M mkM_refuse) rfl rfl rfl (by decide +kernel) ⟨Nat.le_of_ble_eq_true rfl, Nat.le_of_ble_eq_true rfl⟩) ⟨PM_bl, wx_recv hK hP (by omega) q1 rfl, PM_mk hK hP hD⟩ rfl rfl hl.1 rfl (lv_room (Nat.le_of_ble_eq_true rfl)) dM_cut_24 ⟨Nat.le_of_ble_eq_true rfl, Nat.le_of_ble_eq_true rfl⟩) hS hD hA (fun r11 ce2 H locs hpost hP hD hS => ?_)
      obtain ⟨rfl, rf, rz⟩ := hpost
      have q12 : ce2 34 = .inr (3, [.int (nI 1), .ref (ad 35), .ref (ad 36), .ref (ad 37), .ref (ad 38), .ref (ad 39), .int (nI rs), .int (nI bu), .int (nI tl)]) := rz
      have fr13 : ∀ j, j ≠ 34 → ce2 j = ce j := fun j g0 => (rf j g0).trans (fr2 j g0)
      refine lv_if_eq (tgt := 32) hx hb dM_cut_27 (by decide) (fun c27 => ?_) (fun c27 => ?_)
      · skip
        exact absurd c27 (by decide +kernel)
      · skip
        refine lv_iconst (v := nI 0) hx hb dM_cut_30 (by decide +kernel) ?_
        exact W.iret (v := (nI 0)) hx hb hr (fun t ht hW => ⟨⟨(nI 0), ce2, rfl, ⟨(fun j g0 => fr13 j g0), Or.inr ⟨no, rfl, q12⟩⟩, by rw [ht]; exact hP, va_K.moved hW.alike hK, hD⟩, hS.F ht⟩) hS.2.2 dM_cut_31

set_option maxHeartbeats 4000000 in
set_option maxRecDepth 100000 in
theorem c_M_build (l : Launch) (D : va_G) (cI cO cJ : ClassId) (N : Nat) (ad : Nat → Nat) (ce : Nat → va_E) (sz : Nat) (hN : 40 ≤ N) (th : Int32) (rs bu tl : Nat) (h0 : ce 34 = .inr (3, [.int (th), .ref (ad 35), .ref (ad 36), .ref (ad 37), .ref (ad 38), .ref (ad 39), .int (nI rs), .int (nI bu), .int (nI tl)])) (mrow : Nat → Int32) (h1 : ce 35 = .inl (cI, 4000, .inl mrow)) (mt : Nat → Int32) (h2 : ce 36 = .inl (cI, 4000, .inl mt)) (hrs : rs ≤ 4000) : Met l yM_build (.code yM_build bM_build 2 (some .int) :: WA) ({ frames := 0, cells := 0, slots := 0, locals := 0 }) (PM D (TY cI cO cJ) N ad ce sz [.ref (ad 34)]) (va_Qi (fun (r : Int32) (ce1 : Nat → va_E) => r = nI rs ∧ (∀ j, j ≠ 34 → j ≠ 36 → ce1 j = ce j) ∧ ce1 34 = .inr (3, [.int (nI 0), .ref (ad 35), .ref (ad 36), .ref (ad 37), .ref (ad 38), .ref (ad 39), .int (nI rs), .int (nI rs), .int (nI tl)]) ∧ ∃ g1 : Nat → Int32, ce1 36 = .inl (cI, 4000, .inl g1) ∧ ∀ j, j < rs → g1 j = mrow j) (BW D (TY cI cO cJ) N ad (AW N ad sz)) (AW N ad sz)) 0 0 (AW N ad sz) := by
  refine Met.ofW (cc := bM_build) (maxL := 2) (ret := (some .int)) (by decide) rfl ?_
  intro p e s m args below meth c s₁ B hml hv
  obtain ⟨rfl, hsz, hP, hK, hD0⟩ := hv
  have hx := B.exec
  have hb := B.bytes
  have hr := B.returns
  have hA9 : ∀ w ∈ WA, w.before _ s = true := fun w h => atoms_spec (ws := .code yM_build bM_build 2 (some .int) :: WA) B.pre w (List.mem_cons_of_mem _ h)
  have hown : s.vm.findClass RM = some m.cls := findClass_of_methodNamed B.named
  have hlocks := B.notSynchronized
  subst hsz
  have hD := aw_D (sz := s.heap.size) hD0
  generalize hAe : AW N ad s.heap.size = A at hD ⊢
  have hA : ∀ q, s.heap.size ≤ q → A q := fun q h => by rw [← hAe]; exact Or.inr h
  clear hAe hD0
  have hl := lv_entry ([.ref (ad 34)]) (n := 2) (Nat.le_of_ble_eq_true rfl)
  rw [lg_entry_eq]
  generalize (lg_sl ([.ref (ad 34)]) ++ List.replicate (2 - (lg_sl ([.ref (ad 34)])).length) Slot.unset).toArray = ls at hl ⊢
  have hl : lv_has ls 2 [(0, .ref (ad 34))] := hl
  refine st0 (A := A) (fun H locs hS hH => ?_)
  rw [← hH] at hP
  clear hH
  refine lv_aload_n hx hb dM_build_0 rfl (lv_at hl 0 rfl) ?_
  refine lv_iconst (v := nI 0) hx hb dM_build_1 (by decide +kernel) ?_
  refine va_put (D := D) (ci := 3) (v := .int (nI 0)) (ty := .int) (C := RM) (T := TM) (N := 9) hx hb hA9 inM tyM tyM_ok nmM hown hK hP hD hS 34 (wx_at (by omega) h0) rfl 0 (by decide) (hA9 _ mfM_7) (fun _ h9 => h9) rfl (by decide +kernel) rfl rfl (Nat.le_of_ble_eq_true rfl) dM_build_2 (fun H locs hP hD hS => ?_)
  replace hP : va_P D CLS ((wx N ad ce).set 34 (ad 34, .inr (3, [.int (nI 0), .ref (ad 35), .ref (ad 36), .ref (ad 37), .ref (ad 38), .ref (ad 39), .int (nI rs), .int (nI bu), .int (nI tl)]))) H := hP
  replace hD : va_D A ((wx N ad ce).set 34 (ad 34, .inr (3, [.int (nI 0), .ref (ad 35), .ref (ad 36), .ref (ad 37), .ref (ad 38), .ref (ad 39), .int (nI rs), .int (nI bu), .int (nI tl)]))) := hD
  obtain ⟨ce1, hce1⟩ : ∃ z9, z9 = va_up ce 34 (.inr (3, [.int (nI 0), .ref (ad 35), .ref (ad 36), .ref (ad 37), .ref (ad 38), .ref (ad 39), .int (nI rs), .int (nI bu), .int (nI tl)])) := ⟨_, rfl⟩
  rw [wx_set (by omega), ← hce1] at hP hD
  have q1 : ce1 35 = .inl (cI, 4000, .inl mrow) := by rw [hce1, va_up_ne _ _ (by omega)]; exact h1
  have q2 : ce1 36 = .inl (cI, 4000, .inl mt) := by rw [hce1, va_up_ne _ _ (by omega)]; exact h2
  have q3 : ce1 34 = .inr (3, [.int (nI 0), .ref (ad 35), .ref (ad 36), .ref (ad 37), .ref (ad 38), .ref (ad 39), .int (nI rs), .int (nI bu), .int (nI tl)]) := by rw [hce1, va_up_self]
  have fr4 : ∀ j, j ≠ 34 → ce1 j = ce j := fun j h0 => by rw [hce1, va_up_ne _ _ h0]
  refine lv_iconst (v := nI 0) hx hb dM_build_5 (by decide +kernel) ?_
  refine lv_istore_n (lv' := [(1, .int (nI 0)), (0, .ref (ad 34))]) hx hb dM_build_6 rfl hl (by decide) rfl (fun ls hl => ?_)
  obtain ⟨cl, hcl0⟩ : ∃ z : Nat → va_E, ce1 = z := ⟨_, rfl⟩
  obtain ⟨i, hi0⟩ : ∃ z : Nat, (0) = z := ⟨_, rfl⟩
  obtain ⟨g1, hg10⟩ : ∃ z : Nat → Int32, (mt) = z := ⟨_, rfl⟩
  replace hl : lv_has ls 2 [(1, .int (nI i)), (0, .ref (ad 34))] := by subst hi0 hg10; exact lv_sub hl [0, 1] rfl
  have J : (∀ j, j ≠ 34 → j ≠ 36 → cl j = ce j) ∧ cl 34 = .inr (3, [.int (nI 0), .ref (ad 35), .ref (ad 36), .ref (ad 37), .ref (ad 38), .ref (ad 39), .int (nI rs), .int (nI bu), .int (nI tl)]) ∧ cl 36 = .inl (cI, 4000, .inl g1) ∧ i ≤ rs ∧ ∀ j, j < i → g1 j = mrow j := by
    subst hcl0 hi0 hg10
    exact ⟨(fun j g0 g1 => fr4 j g0), q3, q2, ⟨by omega, fun j h => absurd h (by omega)⟩⟩
  rw [hcl0] at hP hD
  clear hcl0 hi0 hg10
  obtain ⟨k9, hk9⟩ : ∃ z9 : Nat, z9 = rs - i := ⟨_, rfl⟩
  induction k9 using Nat.strongRecOn generalizing i g1 cl H locs ls with
  | ind k9 ih =>
    obtain ⟨fr7, q5, q6, JJ⟩ := J
    obtain ⟨j1, j2⟩ := JJ
    refine lv_iload_n hx hb dM_build_7 rfl (lv_at hl 0 rfl) ?_
    refine lv_aload_n hx hb dM_build_8 rfl (lv_at hl 1 rfl) ?_
    refine va_get (D := D) (ci := 3) (v := .int (nI rs)) (C := RM) (T := TM) (N := 9) hx hb hA9 inM hown hK hP 34 (wx_at (by omega) q5) rfl 6 (by decide) (hA9 _ mfM_29) (fun _ h9 => h9) rfl dM_build_9 ?_
    refine lv_icmp_ge (tgt := 33) hx hb dM_build_12 (by decide) (fun c12 => ?_) (fun c12 => ?_)
    · skip
      have d1 := leN c12
      refine lv_aload_n hx hb dM_build_33 rfl (lv_at hl 1 rfl) ?_
      refine lv_aload_n hx hb dM_build_34 rfl (lv_at hl 1 rfl) ?_
      refine va_get (D := D) (ci := 3) (v := .int (nI rs)) (C := RM) (T := TM) (N := 9) hx hb hA9 inM hown hK hP 34 (wx_at (by omega) q5) rfl 6 (by decide) (hA9 _ mfM_29) (fun _ h9 => h9) rfl dM_build_35 ?_
      refine va_put (D := D) (ci := 3) (v := .int (nI rs)) (ty := .int) (C := RM) (T := TM) (N := 9) hx hb hA9 inM tyM tyM_ok nmM hown hK hP hD hS 34 (wx_at (by omega) q5) rfl 7 (by decide) (hA9 _ mfM_32) (fun _ h9 => h9) rfl (by decide +kernel) rfl rfl (Nat.le_of_ble_eq_true rfl) dM_build_38 (fun H locs hP hD hS => ?_)
      replace hP : va_P D CLS ((wx N ad cl).set 34 (ad 34, .inr (3, [.int (nI 0), .ref (ad 35), .ref (ad 36), .ref (ad 37), .ref (ad 38), .ref (ad 39), .int (nI rs), .int (nI rs), .int (nI tl)]))) H := hP
      replace hD : va_D A ((wx N ad cl).set 34 (ad 34, .inr (3, [.int (nI 0), .ref (ad 35), .ref (ad 36), .ref (ad 37), .ref (ad 38), .ref (ad 39), .int (nI rs), .int (nI rs), .int (nI tl)]))) := hD
      obtain ⟨ce2, hce2⟩ : ∃ z9, z9 = va_up cl 34 (.inr (3, [.int (nI 0), .ref (ad 35), .ref (ad 36), .ref (ad 37), .ref (ad 38), .ref (ad 39), .int (nI rs), .int (nI rs), .int (nI tl)])) := ⟨_, rfl⟩
      rw [wx_set (by omega), ← hce2] at hP hD
      have q8 : ce2 35 = .inl (cI, 4000, .inl mrow) := by rw [hce2, va_up_ne _ _ (by omega)]; exact ((fr7 35 (by omega) (by omega)).trans h1)
      have q9 : ce2 36 = .inl (cI, 4000, .inl g1) := by rw [hce2, va_up_ne _ _ (by omega)]; exact q6
      have q10 : ce2 34 = .inr (3, [.int (nI 0), .ref (ad 35), .ref (ad 36), .ref (ad 37), .ref (ad 38), .ref (ad 39), .int (nI rs), .int (nI rs), .int (nI tl)]) := by rw [hce2, va_up_self]
      have fr11 : ∀ j, j ≠ 34 → j ≠ 36 → ce2 j = ce j := fun j h0 h1 => by rw [hce2, va_up_ne _ _ h0]; exact fr7 j h0 h1
      refine lv_aload_n hx hb dM_build_41 rfl (lv_at hl 1 rfl) ?_
      refine va_get (D := D) (ci := 3) (v := .int (nI rs)) (C := RM) (T := TM) (N := 9) hx hb hA9 inM hown hK hP 34 (wx_at (by omega) q10) rfl 7 (by decide) (hA9 _ mfM_32) (fun _ h9 => h9) rfl dM_build_42 ?_
      exact W.iret (v := (nI rs)) hx hb hr (fun t ht hW => ⟨⟨(nI rs), ce2, rfl, ⟨rfl, (fun j g0 g1 => fr11 j g0 g1), q10, g1, q9, fun j hj => j2 j (by omega)⟩, by rw [ht]; exact hP, va_K.moved hW.alike hK, hD⟩, hS.F ht⟩) hS.2.2 dM_build_45
    · skip
      have d1 := nleN c12
      refine lv_aload_n hx hb dM_build_15 rfl (lv_at hl 1 rfl) ?_
      refine va_get (D := D) (ci := 3) (v := .ref (ad 36)) (C := RM) (T := TM) (N := 9) hx hb hA9 inM hown hK hP 34 (wx_at (by omega) q5) rfl 2 (by decide) (hA9 _ mfM_17) (fun _ h9 => h9) rfl dM_build_16 ?_
      refine lv_iload_n hx hb dM_build_19 rfl (lv_at hl 0 rfl) ?_
      refine lv_aload_n hx hb dM_build_20 rfl (lv_at hl 1 rfl) ?_
      refine va_get (D := D) (ci := 3) (v := .ref (ad 35)) (C := RM) (T := TM) (N := 9) hx hb hA9 inM hown hK hP 34 (wx_at (by omega) q5) rfl 1 (by decide) (hA9 _ mfM_13) (fun _ h9 => h9) rfl dM_build_21 ?_
      refine lv_iload_n hx hb dM_build_24 rfl (lv_at hl 0 rfl) ?_
      refine va_iald hx hb hK hP 35 0 (wx_at (by omega) ((fr7 35 (by omega) (by omega)).trans h1)) rfl (inN) dM_build_25 ?_
      refine lv_topi (fun z12 ez12 => ?_)
      obtain rfl : z12 = mrow i := by rw [ez12, clN]
      refine va_iast hx hb hK hP hD hS 36 0 (wx_at (by omega) q6) rfl (inN) dM_build_26 (fun H locs hP hD hS => ?_)
      rw [clN (a := i)] at hP hD
      obtain ⟨ce2, hce2⟩ : ∃ z9, z9 = va_up cl 36 (.inl (cI, 4000, .inl (upd g1 i (mrow i)))) := ⟨_, rfl⟩
      rw [wx_set (by omega), ← hce2] at hP hD
      have q13 : ce2 34 = .inr (3, [.int (nI 0), .ref (ad 35), .ref (ad 36), .ref (ad 37), .ref (ad 38), .ref (ad 39), .int (nI rs), .int (nI bu), .int (nI tl)]) := by rw [hce2, va_up_ne _ _ (by omega)]; exact q5
      have q14 : ce2 35 = .inl (cI, 4000, .inl mrow) := by rw [hce2, va_up_ne _ _ (by omega)]; exact ((fr7 35 (by omega) (by omega)).trans h1)
      have q15 : ce2 36 = .inl (cI, 4000, .inl (upd g1 i (mrow i))) := by rw [hce2, va_up_self]
      have fr16 : ∀ j, j ≠ 34 → j ≠ 36 → ce2 j = ce j := fun j h0 h1 => by rw [hce2, va_up_ne _ _ h1]; exact fr7 j h0 h1
      refine lv_iinc (v := nI (i + 1)) (lv' := [(1, .int (nI (i + 1))), (0, .ref (ad 34))]) hx hb dM_build_27 hl (k := 0) rfl (nI_1 i) (by decide) rfl (fun ls hl => ?_)
      refine lv_goto (tgt := 7) hx hb dM_build_30 (by decide) ?_
      exact ih _ (by omega) (ls := ls) (cl := ce2) (H := H) (locs := locs) (i := i + 1) (g1 := upd g1 i (mrow i)) (hP := hP) (hD := hD) (hS := hS) (hl := lv_sub hl [0, 1] rfl) (J := ⟨(fun j g0 g1 => fr16 j g0 g1), q13, q15, ⟨by omega, fun j hj => if h9 : j = i then (by rw [h9]; exact pk_us) else (by rw [pk_un h9]; exact j2 j (by omega))⟩⟩) (hk9 := rfl)

set_option maxHeartbeats 4000000 in
set_option maxRecDepth 100000 in
theorem c_M_at (l : Launch) (D : va_G) (cI cO cJ : ClassId) (N : Nat) (ad : Nat → Nat) (ce : Nat → va_E) (sz : Nat) (hN : 40 ≤ N) (th : Int32) (rs bu tl : Nat) (h0 : ce 34 = .inr (3, [.int (th), .ref (ad 35), .ref (ad 36), .ref (ad 37), .ref (ad 38), .ref (ad 39), .int (nI rs), .int (nI bu), .int (nI tl)])) (mt : Nat → Int32) (h2 : ce 36 = .inl (cI, 4000, .inl mt)) (hbu : bu ≤ 4000) (x : Int32) : Met l yM_at (.code yM_at bM_at 2 (some .int) :: WA) ({ frames := 1, cells := 0, slots := 0, locals := 22 }) (PM D (TY cI cO cJ) N ad ce sz [.ref (ad 34), .int (x)]) (va_Qi (fun (r : Int32) (ce1 : Nat → va_E) => (∀ j, j ≠ 34 → ce1 j = ce j) ∧ ((∃ k, k < bu ∧ x = nI k ∧ r = mt k ∧ ce1 34 = .inr (3, [.int (nI 0), .ref (ad 35), .ref (ad 36), .ref (ad 37), .ref (ad 38), .ref (ad 39), .int (nI rs), .int (nI bu), .int (nI tl)])) ∨ (¬ (∃ k, k < bu ∧ x = nI k) ∧ r = nI 0 ∧ ce1 34 = .inr (3, [.int (nI 1), .ref (ad 35), .ref (ad 36), .ref (ad 37), .ref (ad 38), .ref (ad 39), .int (nI rs), .int (nI bu), .int (nI tl)])))) (BW D (TY cI cO cJ) N ad (AW N ad sz)) (AW N ad sz)) 0 0 (AW N ad sz) := by
  refine Met.ofW (cc := bM_at) (maxL := 2) (ret := (some .int)) (by decide) rfl ?_
  intro p e s m args below meth c s₁ B hml hv
  obtain ⟨rfl, hsz, hP, hK, hD0⟩ := hv
  have hx := B.exec
  have hb := B.bytes
  have hr := B.returns
  have hA9 : ∀ w ∈ WA, w.before _ s = true := fun w h => atoms_spec (ws := .code yM_at bM_at 2 (some .int) :: WA) B.pre w (List.mem_cons_of_mem _ h)
  have hown : s.vm.findClass RM = some m.cls := findClass_of_methodNamed B.named
  have hlocks := B.notSynchronized
  subst hsz
  have hD := aw_D (sz := s.heap.size) hD0
  generalize hAe : AW N ad s.heap.size = A at hD ⊢
  have hA : ∀ q, s.heap.size ≤ q → A q := fun q h => by rw [← hAe]; exact Or.inr h
  clear hAe hD0
  have hl := lv_entry ([.ref (ad 34), .int (x)]) (n := 2) (Nat.le_of_ble_eq_true rfl)
  rw [lg_entry_eq]
  generalize (lg_sl ([.ref (ad 34), .int (x)]) ++ List.replicate (2 - (lg_sl ([.ref (ad 34), .int (x)])).length) Slot.unset).toArray = ls at hl ⊢
  have hl : lv_has ls 2 [(0, .ref (ad 34)), (1, .int (x))] := hl
  refine st0 (A := A) (fun H locs hS hH => ?_)
  rw [← hH] at hP
  clear hH
  refine lv_aload_n hx hb dM_at_0 rfl (lv_at hl 0 rfl) ?_
  refine lv_iconst (v := nI 0) hx hb dM_at_1 (by decide +kernel) ?_
  refine va_put (D := D) (ci := 3) (v := .int (nI 0)) (ty := .int) (C := RM) (T := TM) (N := 9) hx hb hA9 inM tyM tyM_ok nmM hown hK hP hD hS 34 (wx_at (by omega) h0) rfl 0 (by decide) (hA9 _ mfM_7) (fun _ h9 => h9) rfl (by decide +kernel) rfl rfl (Nat.le_of_ble_eq_true rfl) dM_at_2 (fun H locs hP hD hS => ?_)
  replace hP : va_P D CLS ((wx N ad ce).set 34 (ad 34, .inr (3, [.int (nI 0), .ref (ad 35), .ref (ad 36), .ref (ad 37), .ref (ad 38), .ref (ad 39), .int (nI rs), .int (nI bu), .int (nI tl)]))) H := hP
  replace hD : va_D A ((wx N ad ce).set 34 (ad 34, .inr (3, [.int (nI 0), .ref (ad 35), .ref (ad 36), .ref (ad 37), .ref (ad 38), .ref (ad 39), .int (nI rs), .int (nI bu), .int (nI tl)]))) := hD
  obtain ⟨ce1, hce1⟩ : ∃ z9, z9 = va_up ce 34 (.inr (3, [.int (nI 0), .ref (ad 35), .ref (ad 36), .ref (ad 37), .ref (ad 38), .ref (ad 39), .int (nI rs), .int (nI bu), .int (nI tl)])) := ⟨_, rfl⟩
  rw [wx_set (by omega), ← hce1] at hP hD
  have q1 : ce1 36 = .inl (cI, 4000, .inl mt) := by rw [hce1, va_up_ne _ _ (by omega)]; exact h2
  have q2 : ce1 34 = .inr (3, [.int (nI 0), .ref (ad 35), .ref (ad 36), .ref (ad 37), .ref (ad 38), .ref (ad 39), .int (nI rs), .int (nI bu), .int (nI tl)]) := by rw [hce1, va_up_self]
  have fr3 : ∀ j, j ≠ 34 → ce1 j = ce j := fun j h0 => by rw [hce1, va_up_ne _ _ h0]
  refine lv_aload_n hx hb dM_at_5 rfl (lv_at hl 0 rfl) ?_
  refine lv_iconst (v := nI 1) hx hb dM_at_6 (by decide +kernel) ?_
  refine lv_iload_n hx hb dM_at_7 rfl (lv_at hl 1 rfl) ?_
  refine lv_if_lt (tgt := 19) hx hb dM_at_8 (by decide) (fun c8 => ?_) (fun c8 => ?_)
  · skip
    have no : ¬ ∃ k, k < bu ∧ x = nI k := fun ⟨k, h1, h2⟩ => neg_n c8 h2
    refine lv_iconst (v := nI (bN true)) hx hb dM_at_19 (by decide +kernel) ?_
    refine lv_goto (tgt := 24) hx hb dM_at_20 (by decide) ?_
    refine cvi (va_runV (As := [.int (nI 1), .int (nI (bN true))]) (rest := []) ⟨hx, hb, hml, hown, hA9⟩ (c_M_refuse l D cI cO cJ N ad ce1 H.size hN (nI 0) rs bu tl q2 1 true) (cwV 2 hA9 (gV mlM_38 miM_refuse msM_refuse mn_M mkM_refuse) rfl rfl rfl (by decide +kernel) ⟨Nat.le_of_ble_eq_true rfl, Nat.le_of_ble_eq_true rfl⟩) ⟨PM_bl, wx_recv hK hP (by omega) q2 rfl, PM_mk hK hP hD⟩ rfl rfl hl.1 rfl (lv_room (Nat.le_of_ble_eq_true rfl)) dM_at_24 ⟨Nat.le_of_ble_eq_true rfl, Nat.le_of_ble_eq_true rfl⟩) hS hD hA (fun r4 ce2 H locs hpost hP hD hS => ?_)
    obtain ⟨rfl, rf, rz⟩ := hpost
    have q5 : ce2 34 = .inr (3, [.int (nI 1), .ref (ad 35), .ref (ad 36), .ref (ad 37), .ref (ad 38), .ref (ad 39), .int (nI rs), .int (nI bu), .int (nI tl)]) := rz
    have q6 : ce2 36 = .inl (cI, 4000, .inl mt) := (rf 36 (by omega)).trans q1
    have fr7 : ∀ j, j ≠ 34 → ce2 j = ce j := fun j g0 => (rf j g0).trans (fr3 j g0)
    refine lv_if_eq (tgt := 32) hx hb dM_at_27 (by decide) (fun c27 => ?_) (fun c27 => ?_)
    · skip
      exact absurd c27 (by decide +kernel)
    · skip
      refine lv_iconst (v := nI 0) hx hb dM_at_30 (by decide +kernel) ?_
      exact W.iret (v := (nI 0)) hx hb hr (fun t ht hW => ⟨⟨(nI 0), ce2, rfl, ⟨(fun j g0 => fr7 j g0), Or.inr ⟨no, rfl, q5⟩⟩, by rw [ht]; exact hP, va_K.moved hW.alike hK, hD⟩, hS.F ht⟩) hS.2.2 dM_at_31
  · skip
    refine lv_iload_n hx hb dM_at_11 rfl (lv_at hl 1 rfl) ?_
    refine lv_aload_n hx hb dM_at_12 rfl (lv_at hl 0 rfl) ?_
    refine va_get (D := D) (ci := 3) (v := .int (nI bu)) (C := RM) (T := TM) (N := 9) hx hb hA9 inM hown hK hP 34 (wx_at (by omega) q2) rfl 7 (by decide) (hA9 _ mfM_32) (fun _ h9 => h9) rfl dM_at_13 ?_
    refine lv_icmp_lt (tgt := 23) hx hb dM_at_16 (by decide) (fun c16 => ?_) (fun c16 => ?_)
    · skip
      obtain ⟨k, hk, rfl⟩ := rl_mk c8 c16
      refine lv_iconst (v := nI (bN false)) hx hb dM_at_23 (by decide +kernel) ?_
      refine cvi (va_runV (As := [.int (nI 1), .int (nI (bN false))]) (rest := []) ⟨hx, hb, hml, hown, hA9⟩ (c_M_refuse l D cI cO cJ N ad ce1 H.size hN (nI 0) rs bu tl q2 1 false) (cwV 2 hA9 (gV mlM_38 miM_refuse msM_refuse mn_M mkM_refuse) rfl rfl rfl (by decide +kernel) ⟨Nat.le_of_ble_eq_true rfl, Nat.le_of_ble_eq_true rfl⟩) ⟨PM_bl, wx_recv hK hP (by omega) q2 rfl, PM_mk hK hP hD⟩ rfl rfl hl.1 rfl (lv_room (Nat.le_of_ble_eq_true rfl)) dM_at_24 ⟨Nat.le_of_ble_eq_true rfl, Nat.le_of_ble_eq_true rfl⟩) hS hD hA (fun r8 ce2 H locs hpost hP hD hS => ?_)
      obtain ⟨rfl, rf, rz⟩ := hpost
      have q9 : ce2 34 = .inr (3, [.int (nI 0), .ref (ad 35), .ref (ad 36), .ref (ad 37), .ref (ad 38), .ref (ad 39), .int (nI rs), .int (nI bu), .int (nI tl)]) := rz
      have q10 : ce2 36 = .inl (cI, 4000, .inl mt) := (rf 36 (by omega)).trans q1
      have fr11 : ∀ j, j ≠ 34 → ce2 j = ce j := fun j g0 => (rf j g0).trans (fr3 j g0)
      refine lv_if_eq (tgt := 32) hx hb dM_at_27 (by decide) (fun c27 => ?_) (fun c27 => ?_)
      · skip
        refine lv_aload_n hx hb dM_at_32 rfl (lv_at hl 0 rfl) ?_
        refine va_get (D := D) (ci := 3) (v := .ref (ad 36)) (C := RM) (T := TM) (N := 9) hx hb hA9 inM hown hK hP 34 (wx_at (by omega) q9) rfl 2 (by decide) (hA9 _ mfM_17) (fun _ h9 => h9) rfl dM_at_33 ?_
        refine lv_iload_n hx hb dM_at_36 rfl (lv_at hl 1 rfl) ?_
        refine va_iald hx hb hK hP 36 0 (wx_at (by omega) q10) rfl (inN) dM_at_37 ?_
        refine lv_topi (fun z12 ez12 => ?_)
        obtain rfl : z12 = mt k := by rw [ez12, clN]
        exact W.iret (v := (mt k)) hx hb hr (fun t ht hW => ⟨⟨(mt k), ce2, rfl, ⟨(fun j g0 => fr11 j g0), Or.inl ⟨k, hk, rfl, rfl, q9⟩⟩, by rw [ht]; exact hP, va_K.moved hW.alike hK, hD⟩, hS.F ht⟩) hS.2.2 dM_at_38
      · skip
        exact absurd (show nI (bN false) = 0 from nI_0) c27
    · skip
      have no : ¬ ∃ k, k < bu ∧ x = nI k := fun ⟨k, h1, h2⟩ => c16 (by rw [h2]; exact nI_lt h1 (by omega))
      refine lv_iconst (v := nI (bN true)) hx hb dM_at_19 (by decide +kernel) ?_
      refine lv_goto (tgt := 24) hx hb dM_at_20 (by decide) ?_
      refine cvi (va_runV (As := [.int (nI 1), .int (nI (bN true))]) (rest := []) ⟨hx, hb, hml, hown, hA9⟩ (c_M_refuse l D cI cO cJ N ad ce1 H.size hN (nI 0) rs bu tl q2 1 true) (cwV 2 hA9 (gV mlM_38 miM_refuse msM_refuse mn_M mkM_refuse) rfl rfl rfl (by decide +kernel) ⟨Nat.le_of_ble_eq_true rfl, Nat.le_of_ble_eq_true rfl⟩) ⟨PM_bl, wx_recv hK hP (by omega) q2 rfl, PM_mk hK hP hD⟩ rfl rfl hl.1 rfl (lv_room (Nat.le_of_ble_eq_true rfl)) dM_at_24 ⟨Nat.le_of_ble_eq_true rfl, Nat.le_of_ble_eq_true rfl⟩) hS hD hA (fun r13 ce2 H locs hpost hP hD hS => ?_)
      obtain ⟨rfl, rf, rz⟩ := hpost
      have q14 : ce2 34 = .inr (3, [.int (nI 1), .ref (ad 35), .ref (ad 36), .ref (ad 37), .ref (ad 38), .ref (ad 39), .int (nI rs), .int (nI bu), .int (nI tl)]) := rz
      have q15 : ce2 36 = .inl (cI, 4000, .inl mt) := (rf 36 (by omega)).trans q1
      have fr16 : ∀ j, j ≠ 34 → ce2 j = ce j := fun j g0 => (rf j g0).trans (fr3 j g0)
      refine lv_if_eq (tgt := 32) hx hb dM_at_27 (by decide) (fun c27 => ?_) (fun c27 => ?_)
      · skip
        exact absurd c27 (by decide +kernel)
      · skip
        refine lv_iconst (v := nI 0) hx hb dM_at_30 (by decide +kernel) ?_
        exact W.iret (v := (nI 0)) hx hb hr (fun t ht hW => ⟨⟨(nI 0), ce2, rfl, ⟨(fun j g0 => fr16 j g0), Or.inr ⟨no, rfl, q14⟩⟩, by rw [ht]; exact hP, va_K.moved hW.alike hK, hD⟩, hS.F ht⟩) hS.2.2 dM_at_31

set_option maxHeartbeats 4000000 in
set_option maxRecDepth 100000 in
theorem c_M_number (l : Launch) (D : va_G) (cI cO cJ : ClassId) (N : Nat) (ad : Nat → Nat) (ce : Nat → va_E) (sz : Nat) (hN : 40 ≤ N) (th : Int32) (rs bu tl : Nat) (h0 : ce 34 = .inr (3, [.int (th), .ref (ad 35), .ref (ad 36), .ref (ad 37), .ref (ad 38), .ref (ad 39), .int (nI rs), .int (nI bu), .int (nI tl)])) (ga gb : Nat → Int32) (h3 : ce 38 = .inl (cI, 512, .inl ga)) (h4 : ce 39 = .inl (cI, 512, .inl gb)) (htl : tl ≤ 512) (wv tv : Nat → Nat) (hw : ∀ i, i < tl → ga i = nI (wv i) ∧ gb i = nI (tv i)) (x : Int32) : Met l yM_number (.code yM_number bM_number 2 (some .int) :: WA) ({ frames := 1, cells := 0, slots := 0, locals := 22 }) (PM D (TY cI cO cJ) N ad ce sz [.ref (ad 34), .int (x)]) (va_Qi (fun (r : Int32) (ce1 : Nat → va_E) => (∀ j, j ≠ 34 → ce1 j = ce j) ∧ ((∃ k, k < tl ∧ x = nI k ∧ r = nI (wv k * 4096 + tv k) ∧ ce1 34 = .inr (3, [.int (nI 0), .ref (ad 35), .ref (ad 36), .ref (ad 37), .ref (ad 38), .ref (ad 39), .int (nI rs), .int (nI bu), .int (nI tl)])) ∨ (¬ (∃ k, k < tl ∧ x = nI k) ∧ r = nI 0 ∧ ce1 34 = .inr (3, [.int (nI 1), .ref (ad 35), .ref (ad 36), .ref (ad 37), .ref (ad 38), .ref (ad 39), .int (nI rs), .int (nI bu), .int (nI tl)])))) (BW D (TY cI cO cJ) N ad (AW N ad sz)) (AW N ad sz)) 0 0 (AW N ad sz) := by
  refine Met.ofW (cc := bM_number) (maxL := 2) (ret := (some .int)) (by decide) rfl ?_
  intro p e s m args below meth c s₁ B hml hv
  obtain ⟨rfl, hsz, hP, hK, hD0⟩ := hv
  have hx := B.exec
  have hb := B.bytes
  have hr := B.returns
  have hA9 : ∀ w ∈ WA, w.before _ s = true := fun w h => atoms_spec (ws := .code yM_number bM_number 2 (some .int) :: WA) B.pre w (List.mem_cons_of_mem _ h)
  have hown : s.vm.findClass RM = some m.cls := findClass_of_methodNamed B.named
  have hlocks := B.notSynchronized
  subst hsz
  have hD := aw_D (sz := s.heap.size) hD0
  generalize hAe : AW N ad s.heap.size = A at hD ⊢
  have hA : ∀ q, s.heap.size ≤ q → A q := fun q h => by rw [← hAe]; exact Or.inr h
  clear hAe hD0
  have hl := lv_entry ([.ref (ad 34), .int (x)]) (n := 2) (Nat.le_of_ble_eq_true rfl)
  rw [lg_entry_eq]
  generalize (lg_sl ([.ref (ad 34), .int (x)]) ++ List.replicate (2 - (lg_sl ([.ref (ad 34), .int (x)])).length) Slot.unset).toArray = ls at hl ⊢
  have hl : lv_has ls 2 [(0, .ref (ad 34)), (1, .int (x))] := hl
  refine st0 (A := A) (fun H locs hS hH => ?_)
  rw [← hH] at hP
  clear hH
  refine lv_aload_n hx hb dM_number_0 rfl (lv_at hl 0 rfl) ?_
  refine lv_iconst (v := nI 0) hx hb dM_number_1 (by decide +kernel) ?_
  refine va_put (D := D) (ci := 3) (v := .int (nI 0)) (ty := .int) (C := RM) (T := TM) (N := 9) hx hb hA9 inM tyM tyM_ok nmM hown hK hP hD hS 34 (wx_at (by omega) h0) rfl 0 (by decide) (hA9 _ mfM_7) (fun _ h9 => h9) rfl (by decide +kernel) rfl rfl (Nat.le_of_ble_eq_true rfl) dM_number_2 (fun H locs hP hD hS => ?_)
  replace hP : va_P D CLS ((wx N ad ce).set 34 (ad 34, .inr (3, [.int (nI 0), .ref (ad 35), .ref (ad 36), .ref (ad 37), .ref (ad 38), .ref (ad 39), .int (nI rs), .int (nI bu), .int (nI tl)]))) H := hP
  replace hD : va_D A ((wx N ad ce).set 34 (ad 34, .inr (3, [.int (nI 0), .ref (ad 35), .ref (ad 36), .ref (ad 37), .ref (ad 38), .ref (ad 39), .int (nI rs), .int (nI bu), .int (nI tl)]))) := hD
  obtain ⟨ce1, hce1⟩ : ∃ z9, z9 = va_up ce 34 (.inr (3, [.int (nI 0), .ref (ad 35), .ref (ad 36), .ref (ad 37), .ref (ad 38), .ref (ad 39), .int (nI rs), .int (nI bu), .int (nI tl)])) := ⟨_, rfl⟩
  rw [wx_set (by omega), ← hce1] at hP hD
  have q1 : ce1 38 = .inl (cI, 512, .inl ga) := by rw [hce1, va_up_ne _ _ (by omega)]; exact h3
  have q2 : ce1 39 = .inl (cI, 512, .inl gb) := by rw [hce1, va_up_ne _ _ (by omega)]; exact h4
  have q3 : ce1 34 = .inr (3, [.int (nI 0), .ref (ad 35), .ref (ad 36), .ref (ad 37), .ref (ad 38), .ref (ad 39), .int (nI rs), .int (nI bu), .int (nI tl)]) := by rw [hce1, va_up_self]
  have fr4 : ∀ j, j ≠ 34 → ce1 j = ce j := fun j h0 => by rw [hce1, va_up_ne _ _ h0]
  refine lv_aload_n hx hb dM_number_5 rfl (lv_at hl 0 rfl) ?_
  refine lv_iconst (v := nI 1) hx hb dM_number_6 (by decide +kernel) ?_
  refine lv_iload_n hx hb dM_number_7 rfl (lv_at hl 1 rfl) ?_
  refine lv_if_lt (tgt := 19) hx hb dM_number_8 (by decide) (fun c8 => ?_) (fun c8 => ?_)
  · skip
    have no : ¬ ∃ k, k < tl ∧ x = nI k := fun ⟨k, h1, h2⟩ => neg_n c8 h2
    refine lv_iconst (v := nI (bN true)) hx hb dM_number_19 (by decide +kernel) ?_
    refine lv_goto (tgt := 24) hx hb dM_number_20 (by decide) ?_
    refine cvi (va_runV (As := [.int (nI 1), .int (nI (bN true))]) (rest := []) ⟨hx, hb, hml, hown, hA9⟩ (c_M_refuse l D cI cO cJ N ad ce1 H.size hN (nI 0) rs bu tl q3 1 true) (cwV 2 hA9 (gV mlM_38 miM_refuse msM_refuse mn_M mkM_refuse) rfl rfl rfl (by decide +kernel) ⟨Nat.le_of_ble_eq_true rfl, Nat.le_of_ble_eq_true rfl⟩) ⟨PM_bl, wx_recv hK hP (by omega) q3 rfl, PM_mk hK hP hD⟩ rfl rfl hl.1 rfl (lv_room (Nat.le_of_ble_eq_true rfl)) dM_number_24 ⟨Nat.le_of_ble_eq_true rfl, Nat.le_of_ble_eq_true rfl⟩) hS hD hA (fun r5 ce2 H locs hpost hP hD hS => ?_)
    obtain ⟨rfl, rf, rz⟩ := hpost
    have q6 : ce2 34 = .inr (3, [.int (nI 1), .ref (ad 35), .ref (ad 36), .ref (ad 37), .ref (ad 38), .ref (ad 39), .int (nI rs), .int (nI bu), .int (nI tl)]) := rz
    have q7 : ce2 38 = .inl (cI, 512, .inl ga) := (rf 38 (by omega)).trans q1
    have q8 : ce2 39 = .inl (cI, 512, .inl gb) := (rf 39 (by omega)).trans q2
    have fr9 : ∀ j, j ≠ 34 → ce2 j = ce j := fun j g0 => (rf j g0).trans (fr4 j g0)
    refine lv_if_eq (tgt := 32) hx hb dM_number_27 (by decide) (fun c27 => ?_) (fun c27 => ?_)
    · skip
      exact absurd c27 (by decide +kernel)
    · skip
      refine lv_iconst (v := nI 0) hx hb dM_number_30 (by decide +kernel) ?_
      exact W.iret (v := (nI 0)) hx hb hr (fun t ht hW => ⟨⟨(nI 0), ce2, rfl, ⟨(fun j g0 => fr9 j g0), Or.inr ⟨no, rfl, q6⟩⟩, by rw [ht]; exact hP, va_K.moved hW.alike hK, hD⟩, hS.F ht⟩) hS.2.2 dM_number_31
  · skip
    refine lv_iload_n hx hb dM_number_11 rfl (lv_at hl 1 rfl) ?_
    refine lv_aload_n hx hb dM_number_12 rfl (lv_at hl 0 rfl) ?_
    refine va_get (D := D) (ci := 3) (v := .int (nI tl)) (C := RM) (T := TM) (N := 9) hx hb hA9 inM hown hK hP 34 (wx_at (by omega) q3) rfl 8 (by decide) (hA9 _ mfM_35) (fun _ h9 => h9) rfl dM_number_13 ?_
    refine lv_icmp_lt (tgt := 23) hx hb dM_number_16 (by decide) (fun c16 => ?_) (fun c16 => ?_)
    · skip
      obtain ⟨k, hk, rfl⟩ := rl_mk c8 c16
      refine lv_iconst (v := nI (bN false)) hx hb dM_number_23 (by decide +kernel) ?_
      refine cvi (va_runV (As := [.int (nI 1), .int (nI (bN false))]) (rest := []) ⟨hx, hb, hml, hown, hA9⟩ (c_M_refuse l D cI cO cJ N ad ce1 H.size hN (nI 0) rs bu tl q3 1 false) (cwV 2 hA9 (gV mlM_38 miM_refuse msM_refuse mn_M mkM_refuse) rfl rfl rfl (by decide +kernel) ⟨Nat.le_of_ble_eq_true rfl, Nat.le_of_ble_eq_true rfl⟩) ⟨PM_bl, wx_recv hK hP (by omega) q3 rfl, PM_mk hK hP hD⟩ rfl rfl hl.1 rfl (lv_room (Nat.le_of_ble_eq_true rfl)) dM_number_24 ⟨Nat.le_of_ble_eq_true rfl, Nat.le_of_ble_eq_true rfl⟩) hS hD hA (fun r10 ce2 H locs hpost hP hD hS => ?_)
      obtain ⟨rfl, rf, rz⟩ := hpost
      have q11 : ce2 34 = .inr (3, [.int (nI 0), .ref (ad 35), .ref (ad 36), .ref (ad 37), .ref (ad 38), .ref (ad 39), .int (nI rs), .int (nI bu), .int (nI tl)]) := rz
      have q12 : ce2 38 = .inl (cI, 512, .inl ga) := (rf 38 (by omega)).trans q1
      have q13 : ce2 39 = .inl (cI, 512, .inl gb) := (rf 39 (by omega)).trans q2
      have fr14 : ∀ j, j ≠ 34 → ce2 j = ce j := fun j g0 => (rf j g0).trans (fr4 j g0)
      refine lv_if_eq (tgt := 32) hx hb dM_number_27 (by decide) (fun c27 => ?_) (fun c27 => ?_)
      · skip
        refine lv_sipush (v := nI 4096) hx hb dM_number_32 (by decide +kernel) ?_
        refine lv_aload_n hx hb dM_number_35 rfl (lv_at hl 0 rfl) ?_
        refine va_get (D := D) (ci := 3) (v := .ref (ad 38)) (C := RM) (T := TM) (N := 9) hx hb hA9 inM hown hK hP 34 (wx_at (by omega) q11) rfl 4 (by decide) (hA9 _ mfM_23) (fun _ h9 => h9) rfl dM_number_36 ?_
        refine lv_iload_n hx hb dM_number_39 rfl (lv_at hl 1 rfl) ?_
        refine va_iald hx hb hK hP 38 0 (wx_at (by omega) q12) rfl (inN) dM_number_40 ?_
        refine lv_topi (fun z15 ez15 => ?_)
        obtain rfl : z15 = nI (wv k) := by rw [ez15, clN]; exact (hw k hk).1
        refine lv_imul hx hb dM_number_41 ?_
        refine lv_aload_n hx hb dM_number_42 rfl (lv_at hl 0 rfl) ?_
        refine va_get (D := D) (ci := 3) (v := .ref (ad 39)) (C := RM) (T := TM) (N := 9) hx hb hA9 inM hown hK hP 34 (wx_at (by omega) q11) rfl 5 (by decide) (hA9 _ mfM_26) (fun _ h9 => h9) rfl dM_number_43 ?_
        refine lv_iload_n hx hb dM_number_46 rfl (lv_at hl 1 rfl) ?_
        refine va_iald hx hb hK hP 39 0 (wx_at (by omega) q13) rfl (inN) dM_number_47 ?_
        refine lv_topi (fun z16 ez16 => ?_)
        obtain rfl : z16 = nI (tv k) := by rw [ez16, clN]; exact (hw k hk).2
        refine lv_iadd hx hb dM_number_48 ?_
        refine lv_topi (fun z17 ez17 => ?_)
        obtain rfl : z17 = nI (wv k * 4096 + tv k) := by rw [ez17]; rw [pk_mul, nI_add, Nat.mul_comm]
        exact W.iret (v := (nI (wv k * 4096 + tv k))) hx hb hr (fun t ht hW => ⟨⟨(nI (wv k * 4096 + tv k)), ce2, rfl, ⟨(fun j g0 => fr14 j g0), Or.inl ⟨k, hk, rfl, rfl, q11⟩⟩, by rw [ht]; exact hP, va_K.moved hW.alike hK, hD⟩, hS.F ht⟩) hS.2.2 dM_number_49
      · skip
        exact absurd (show nI (bN false) = 0 from nI_0) c27
    · skip
      have no : ¬ ∃ k, k < tl ∧ x = nI k := fun ⟨k, h1, h2⟩ => c16 (by rw [h2]; exact nI_lt h1 (by omega))
      refine lv_iconst (v := nI (bN true)) hx hb dM_number_19 (by decide +kernel) ?_
      refine lv_goto (tgt := 24) hx hb dM_number_20 (by decide) ?_
      refine cvi (va_runV (As := [.int (nI 1), .int (nI (bN true))]) (rest := []) ⟨hx, hb, hml, hown, hA9⟩ (c_M_refuse l D cI cO cJ N ad ce1 H.size hN (nI 0) rs bu tl q3 1 true) (cwV 2 hA9 (gV mlM_38 miM_refuse msM_refuse mn_M mkM_refuse) rfl rfl rfl (by decide +kernel) ⟨Nat.le_of_ble_eq_true rfl, Nat.le_of_ble_eq_true rfl⟩) ⟨PM_bl, wx_recv hK hP (by omega) q3 rfl, PM_mk hK hP hD⟩ rfl rfl hl.1 rfl (lv_room (Nat.le_of_ble_eq_true rfl)) dM_number_24 ⟨Nat.le_of_ble_eq_true rfl, Nat.le_of_ble_eq_true rfl⟩) hS hD hA (fun r18 ce2 H locs hpost hP hD hS => ?_)
      obtain ⟨rfl, rf, rz⟩ := hpost
      have q19 : ce2 34 = .inr (3, [.int (nI 1), .ref (ad 35), .ref (ad 36), .ref (ad 37), .ref (ad 38), .ref (ad 39), .int (nI rs), .int (nI bu), .int (nI tl)]) := rz
      have q20 : ce2 38 = .inl (cI, 512, .inl ga) := (rf 38 (by omega)).trans q1
      have q21 : ce2 39 = .inl (cI, 512, .inl gb) := (rf 39 (by omega)).trans q2
      have fr22 : ∀ j, j ≠ 34 → ce2 j = ce j := fun j g0 => (rf j g0).trans (fr4 j g0)
      refine lv_if_eq (tgt := 32) hx hb dM_number_27 (by decide) (fun c27 => ?_) (fun c27 => ?_)
      · skip
        exact absurd c27 (by decide +kernel)
      · skip
        refine lv_iconst (v := nI 0) hx hb dM_number_30 (by decide +kernel) ?_
        exact W.iret (v := (nI 0)) hx hb hr (fun t ht hW => ⟨⟨(nI 0), ce2, rfl, ⟨(fun j g0 => fr22 j g0), Or.inr ⟨no, rfl, q19⟩⟩, by rw [ht]; exact hP, va_K.moved hW.alike hK, hD⟩, hS.F ht⟩) hS.2.2 dM_number_31

set_option maxHeartbeats 4000000 in
set_option maxRecDepth 100000 in
theorem c_M_count (l : Launch) (D : va_G) (cI cO cJ : ClassId) (N : Nat) (ad : Nat → Nat) (ce : Nat → va_E) (sz : Nat) (hN : 40 ≤ N) (th : Int32) (rs bu tl : Nat) (h0 : ce 34 = .inr (3, [.int (th), .ref (ad 35), .ref (ad 36), .ref (ad 37), .ref (ad 38), .ref (ad 39), .int (nI rs), .int (nI bu), .int (nI tl)])) (x : Int32) : Met l yM_count (.code yM_count bM_count 2 (some .int) :: WA) ({ frames := 0, cells := 0, slots := 0, locals := 0 }) (PM D (TY cI cO cJ) N ad ce sz [.ref (ad 34), .int (x)]) (va_Qi (fun (r : Int32) (ce1 : Nat → va_E) => (∀ j, j ≠ 34 → ce1 j = ce j) ∧ ce1 34 = .inr (3, [.int (nI 0), .ref (ad 35), .ref (ad 36), .ref (ad 37), .ref (ad 38), .ref (ad 39), .int (nI rs), .int (nI bu), .int (nI tl)]) ∧ r = (if x = 0 then nI rs else if x = 1 then nI bu else -1)) (BW D (TY cI cO cJ) N ad (AW N ad sz)) (AW N ad sz)) 0 0 (AW N ad sz) := by
  refine Met.ofW (cc := bM_count) (maxL := 2) (ret := (some .int)) (by decide) rfl ?_
  intro p e s m args below meth c s₁ B hml hv
  obtain ⟨rfl, hsz, hP, hK, hD0⟩ := hv
  have hx := B.exec
  have hb := B.bytes
  have hr := B.returns
  have hA9 : ∀ w ∈ WA, w.before _ s = true := fun w h => atoms_spec (ws := .code yM_count bM_count 2 (some .int) :: WA) B.pre w (List.mem_cons_of_mem _ h)
  have hown : s.vm.findClass RM = some m.cls := findClass_of_methodNamed B.named
  have hlocks := B.notSynchronized
  subst hsz
  have hD := aw_D (sz := s.heap.size) hD0
  generalize hAe : AW N ad s.heap.size = A at hD ⊢
  have hA : ∀ q, s.heap.size ≤ q → A q := fun q h => by rw [← hAe]; exact Or.inr h
  clear hAe hD0
  have hl := lv_entry ([.ref (ad 34), .int (x)]) (n := 2) (Nat.le_of_ble_eq_true rfl)
  rw [lg_entry_eq]
  generalize (lg_sl ([.ref (ad 34), .int (x)]) ++ List.replicate (2 - (lg_sl ([.ref (ad 34), .int (x)])).length) Slot.unset).toArray = ls at hl ⊢
  have hl : lv_has ls 2 [(0, .ref (ad 34)), (1, .int (x))] := hl
  refine st0 (A := A) (fun H locs hS hH => ?_)
  rw [← hH] at hP
  clear hH
  refine lv_aload_n hx hb dM_count_0 rfl (lv_at hl 0 rfl) ?_
  refine lv_iconst (v := nI 0) hx hb dM_count_1 (by decide +kernel) ?_
  refine va_put (D := D) (ci := 3) (v := .int (nI 0)) (ty := .int) (C := RM) (T := TM) (N := 9) hx hb hA9 inM tyM tyM_ok nmM hown hK hP hD hS 34 (wx_at (by omega) h0) rfl 0 (by decide) (hA9 _ mfM_7) (fun _ h9 => h9) rfl (by decide +kernel) rfl rfl (Nat.le_of_ble_eq_true rfl) dM_count_2 (fun H locs hP hD hS => ?_)
  replace hP : va_P D CLS ((wx N ad ce).set 34 (ad 34, .inr (3, [.int (nI 0), .ref (ad 35), .ref (ad 36), .ref (ad 37), .ref (ad 38), .ref (ad 39), .int (nI rs), .int (nI bu), .int (nI tl)]))) H := hP
  replace hD : va_D A ((wx N ad ce).set 34 (ad 34, .inr (3, [.int (nI 0), .ref (ad 35), .ref (ad 36), .ref (ad 37), .ref (ad 38), .ref (ad 39), .int (nI rs), .int (nI bu), .int (nI tl)]))) := hD
  obtain ⟨ce1, hce1⟩ : ∃ z9, z9 = va_up ce 34 (.inr (3, [.int (nI 0), .ref (ad 35), .ref (ad 36), .ref (ad 37), .ref (ad 38), .ref (ad 39), .int (nI rs), .int (nI bu), .int (nI tl)])) := ⟨_, rfl⟩
  rw [wx_set (by omega), ← hce1] at hP hD
  have q1 : ce1 34 = .inr (3, [.int (nI 0), .ref (ad 35), .ref (ad 36), .ref (ad 37), .ref (ad 38), .ref (ad 39), .int (nI rs), .int (nI bu), .int (nI tl)]) := by rw [hce1, va_up_self]
  have fr2 : ∀ j, j ≠ 34 → ce1 j = ce j := fun j h0 => by rw [hce1, va_up_ne _ _ h0]
  refine lv_iload_n hx hb dM_count_5 rfl (lv_at hl 1 rfl) ?_
  refine lv_if_ne (tgt := 16) hx hb dM_count_6 (by decide) (fun c6 => ?_) (fun c6 => ?_)
  · skip
    refine lv_iload_n hx hb dM_count_16 rfl (lv_at hl 1 rfl) ?_
    refine lv_iconst (v := 1) hx hb dM_count_17 (by decide +kernel) ?_
    refine lv_icmp_ne (tgt := 28) hx hb dM_count_18 (by decide) (fun c18 => ?_) (fun c18 => ?_)
    · skip
      refine lv_iconst (v := (-1)) hx hb dM_count_28 (by decide +kernel) ?_
      exact W.iret (v := ((-1))) hx hb hr (fun t ht hW => ⟨⟨((-1)), ce1, rfl, ⟨(fun j g0 => fr2 j g0), q1, by rw [if_neg c6, if_neg c18]⟩, by rw [ht]; exact hP, va_K.moved hW.alike hK, hD⟩, hS.F ht⟩) hS.2.2 dM_count_29
    · skip
      refine lv_aload_n hx hb dM_count_21 rfl (lv_at hl 0 rfl) ?_
      refine va_get (D := D) (ci := 3) (v := .int (nI bu)) (C := RM) (T := TM) (N := 9) hx hb hA9 inM hown hK hP 34 (wx_at (by omega) q1) rfl 7 (by decide) (hA9 _ mfM_32) (fun _ h9 => h9) rfl dM_count_22 ?_
      refine lv_goto (tgt := 29) hx hb dM_count_25 (by decide) ?_
      exact W.iret (v := (nI bu)) hx hb hr (fun t ht hW => ⟨⟨(nI bu), ce1, rfl, ⟨(fun j g0 => fr2 j g0), q1, by rw [if_neg c6, if_pos c18]⟩, by rw [ht]; exact hP, va_K.moved hW.alike hK, hD⟩, hS.F ht⟩) hS.2.2 dM_count_29
  · skip
    refine lv_aload_n hx hb dM_count_9 rfl (lv_at hl 0 rfl) ?_
    refine va_get (D := D) (ci := 3) (v := .int (nI rs)) (C := RM) (T := TM) (N := 9) hx hb hA9 inM hown hK hP 34 (wx_at (by omega) q1) rfl 6 (by decide) (hA9 _ mfM_29) (fun _ h9 => h9) rfl dM_count_10 ?_
    refine lv_goto (tgt := 29) hx hb dM_count_13 (by decide) ?_
    exact W.iret (v := (nI rs)) hx hb hr (fun t ht hW => ⟨⟨(nI rs), ce1, rfl, ⟨(fun j g0 => fr2 j g0), q1, by rw [if_pos c6]⟩, by rw [ht]; exact hP, va_K.moved hW.alike hK, hD⟩, hS.F ht⟩) hS.2.2 dM_count_29
