set_option maxHeartbeats 4000000 in
set_option maxRecDepth 100000 in
theorem c_M_noPart (l : Launch) (D : va_G) (cI cO cJ : ClassId) (N : Nat) (ad : Nat → Nat) (ce : Nat → va_E) (sz : Nat) (hN : 40 ≤ N) (th : Int32) (rs bu tl : Nat) (h0 : ce 34 = .inr (3, [.int (th), .ref (ad 35), .ref (ad 36), .ref (ad 37), .ref (ad 38), .ref (ad 39), .int (nI rs), .int (nI bu), .int (nI tl)])) (hbu : bu ≤ 4000) (a b : Int32) (mo : Bool) : Met l yM_noPart (.code yM_noPart bM_noPart 4 (some .boolean) :: WA) ({ frames := 1, cells := 0, slots := 0, locals := 22 }) (PM D (TY cI cO cJ) N ad ce sz [.ref (ad 34), .int (a), .int (b), .int (nI (bN mo))]) (va_Qi (fun (r : Int32) (ce1 : Nat → va_E) => (∀ j, j ≠ 34 → ce1 j = ce j) ∧ ((PA a b bu ∧ mo = false ∧ r = nI (bN false) ∧ ce1 34 = .inr (3, [.int (nI 0), .ref (ad 35), .ref (ad 36), .ref (ad 37), .ref (ad 38), .ref (ad 39), .int (nI rs), .int (nI bu), .int (nI tl)])) ∨ (¬ (PA a b bu ∧ mo = false) ∧ r = nI (bN true) ∧ ce1 34 = .inr (3, [.int (nI 1), .ref (ad 35), .ref (ad 36), .ref (ad 37), .ref (ad 38), .ref (ad 39), .int (nI rs), .int (nI bu), .int (nI tl)])))) (BW D (TY cI cO cJ) N ad (AW N ad sz)) (AW N ad sz)) 0 0 (AW N ad sz) := by
  refine Met.ofW (cc := bM_noPart) (maxL := 4) (ret := (some .boolean)) (by decide) rfl ?_
  intro p e s m args below meth c s₁ B hml hv
  obtain ⟨rfl, hsz, hP, hK, hD0⟩ := hv
  have hx := B.exec
  have hb := B.bytes
  have hr := B.returns
  have hA9 : ∀ w ∈ WA, w.before _ s = true := fun w h => atoms_spec (ws := .code yM_noPart bM_noPart 4 (some .boolean) :: WA) B.pre w (List.mem_cons_of_mem _ h)
  have hown : s.vm.findClass RM = some m.cls := findClass_of_methodNamed B.named
  have hlocks := B.notSynchronized
  subst hsz
  have hD := aw_D (sz := s.heap.size) hD0
  generalize hAe : AW N ad s.heap.size = A at hD ⊢
  have hA : ∀ q, s.heap.size ≤ q → A q := fun q h => by rw [← hAe]; exact Or.inr h
  clear hAe hD0
  have hl := lv_entry ([.ref (ad 34), .int (a), .int (b), .int (nI (bN mo))]) (n := 4) (Nat.le_of_ble_eq_true rfl)
  rw [lg_entry_eq]
  generalize (lg_sl ([.ref (ad 34), .int (a), .int (b), .int (nI (bN mo))]) ++ List.replicate (4 - (lg_sl ([.ref (ad 34), .int (a), .int (b), .int (nI (bN mo))])).length) Slot.unset).toArray = ls at hl ⊢
  have hl : lv_has ls 4 [(0, .ref (ad 34)), (1, .int (a)), (2, .int (b)), (3, .int (nI (bN mo)))] := hl
  refine st0 (A := A) (fun H locs hS hH => ?_)
  rw [← hH] at hP
  clear hH
  refine lv_aload_n hx hb dM_noPart_0 rfl (lv_at hl 0 rfl) ?_
  refine lv_iconst (v := nI 0) hx hb dM_noPart_1 (by decide +kernel) ?_
  refine va_put (D := D) (ci := 3) (v := .int (nI 0)) (ty := .int) (C := RM) (T := TM) (N := 9) hx hb hA9 inM tyM tyM_ok nmM hown hK hP hD hS 34 (wx_at (by omega) h0) rfl 0 (by decide) (hA9 _ mfM_7) (fun _ h9 => h9) rfl (by decide +kernel) rfl rfl (Nat.le_of_ble_eq_true rfl) dM_noPart_2 (fun H locs hP hD hS => ?_)
  replace hP : va_P D CLS ((wx N ad ce).set 34 (ad 34, .inr (3, [.int (nI 0), .ref (ad 35), .ref (ad 36), .ref (ad 37), .ref (ad 38), .ref (ad 39), .int (nI rs), .int (nI bu), .int (nI tl)]))) H := hP
  replace hD : va_D A ((wx N ad ce).set 34 (ad 34, .inr (3, [.int (nI 0), .ref (ad 35), .ref (ad 36), .ref (ad 37), .ref (ad 38), .ref (ad 39), .int (nI rs), .int (nI bu), .int (nI tl)]))) := hD
  obtain ⟨ce1, hce1⟩ : ∃ z9, z9 = va_up ce 34 (.inr (3, [.int (nI 0), .ref (ad 35), .ref (ad 36), .ref (ad 37), .ref (ad 38), .ref (ad 39), .int (nI rs), .int (nI bu), .int (nI tl)])) := ⟨_, rfl⟩
  rw [wx_set (by omega), ← hce1] at hP hD
  have q1 : ce1 34 = .inr (3, [.int (nI 0), .ref (ad 35), .ref (ad 36), .ref (ad 37), .ref (ad 38), .ref (ad 39), .int (nI rs), .int (nI bu), .int (nI tl)]) := by rw [hce1, va_up_self]
  have fr2 : ∀ j, j ≠ 34 → ce1 j = ce j := fun j h0 => by rw [hce1, va_up_ne _ _ h0]
  refine lv_aload_n hx hb dM_noPart_5 rfl (lv_at hl 0 rfl) ?_
  refine lv_iconst (v := nI 1) hx hb dM_noPart_6 (by decide +kernel) ?_
  refine lv_iload_n hx hb dM_noPart_7 rfl (lv_at hl 1 rfl) ?_
  refine lv_if_lt (tgt := 28) hx hb dM_noPart_8 (by decide) (fun c8 => ?_) (fun c8 => ?_)
  · skip
    have no : ¬ (PA a b bu ∧ mo = false) := fun h => pa_1 hbu c8 h.1
    refine lv_iconst (v := nI (bN true)) hx hb dM_noPart_28 (by decide +kernel) ?_
    refine lv_goto (tgt := 33) hx hb dM_noPart_29 (by decide) ?_
    refine cvi (va_runV (As := [.int (nI 1), .int (nI (bN true))]) (rest := []) ⟨hx, hb, hml, hown, hA9⟩ (c_M_refuse l D cI cO cJ N ad ce1 H.size hN (nI 0) rs bu tl q1 1 true) (cwV 2 hA9 (gV mlM_38 miM_refuse msM_refuse mn_M mkM_refuse) rfl rfl rfl (by decide +kernel) ⟨Nat.le_of_ble_eq_true rfl, Nat.le_of_ble_eq_true rfl⟩) ⟨PM_bl, wx_recv hK hP (by omega) q1 rfl, PM_mk hK hP hD⟩ rfl rfl hl.1 rfl (lv_room (Nat.le_of_ble_eq_true rfl)) dM_noPart_33 ⟨Nat.le_of_ble_eq_true rfl, Nat.le_of_ble_eq_true rfl⟩) hS hD hA (fun r3 ce2 H locs hpost hP hD hS => ?_)
    obtain ⟨rfl, rf, rz⟩ := hpost
    have q4 : ce2 34 = .inr (3, [.int (nI 1), .ref (ad 35), .ref (ad 36), .ref (ad 37), .ref (ad 38), .ref (ad 39), .int (nI rs), .int (nI bu), .int (nI tl)]) := rz
    have fr5 : ∀ j, j ≠ 34 → ce2 j = ce j := fun j g0 => (rf j g0).trans (fr2 j g0)
    exact W.zret (v := (nI (bN true))) hx hb hr (by decide +kernel) (fun t ht hW => ⟨⟨(nI (bN true)), ce2, rfl, ⟨(fun j g0 => fr5 j g0), Or.inr ⟨no, rfl, q4⟩⟩, by rw [ht]; exact hP, va_K.moved hW.alike hK, hD⟩, hS.F ht⟩) hS.2.2 dM_noPart_36
  · skip
    refine lv_iload_n hx hb dM_noPart_11 rfl (lv_at hl 1 rfl) ?_
    refine lv_iload_n hx hb dM_noPart_12 rfl (lv_at hl 2 rfl) ?_
    refine lv_icmp_gt (tgt := 28) hx hb dM_noPart_13 (by decide) (fun c13 => ?_) (fun c13 => ?_)
    · skip
      have no : ¬ (PA a b bu ∧ mo = false) := fun h => pa_2 hbu c13 h.1
      refine lv_iconst (v := nI (bN true)) hx hb dM_noPart_28 (by decide +kernel) ?_
      refine lv_goto (tgt := 33) hx hb dM_noPart_29 (by decide) ?_
      refine cvi (va_runV (As := [.int (nI 1), .int (nI (bN true))]) (rest := []) ⟨hx, hb, hml, hown, hA9⟩ (c_M_refuse l D cI cO cJ N ad ce1 H.size hN (nI 0) rs bu tl q1 1 true) (cwV 2 hA9 (gV mlM_38 miM_refuse msM_refuse mn_M mkM_refuse) rfl rfl rfl (by decide +kernel) ⟨Nat.le_of_ble_eq_true rfl, Nat.le_of_ble_eq_true rfl⟩) ⟨PM_bl, wx_recv hK hP (by omega) q1 rfl, PM_mk hK hP hD⟩ rfl rfl hl.1 rfl (lv_room (Nat.le_of_ble_eq_true rfl)) dM_noPart_33 ⟨Nat.le_of_ble_eq_true rfl, Nat.le_of_ble_eq_true rfl⟩) hS hD hA (fun r6 ce2 H locs hpost hP hD hS => ?_)
      obtain ⟨rfl, rf, rz⟩ := hpost
      have q7 : ce2 34 = .inr (3, [.int (nI 1), .ref (ad 35), .ref (ad 36), .ref (ad 37), .ref (ad 38), .ref (ad 39), .int (nI rs), .int (nI bu), .int (nI tl)]) := rz
      have fr8 : ∀ j, j ≠ 34 → ce2 j = ce j := fun j g0 => (rf j g0).trans (fr2 j g0)
      exact W.zret (v := (nI (bN true))) hx hb hr (by decide +kernel) (fun t ht hW => ⟨⟨(nI (bN true)), ce2, rfl, ⟨(fun j g0 => fr8 j g0), Or.inr ⟨no, rfl, q7⟩⟩, by rw [ht]; exact hP, va_K.moved hW.alike hK, hD⟩, hS.F ht⟩) hS.2.2 dM_noPart_36
    · skip
      refine lv_iload_n hx hb dM_noPart_16 rfl (lv_at hl 2 rfl) ?_
      refine lv_aload_n hx hb dM_noPart_17 rfl (lv_at hl 0 rfl) ?_
      refine va_get (D := D) (ci := 3) (v := .int (nI bu)) (C := RM) (T := TM) (N := 9) hx hb hA9 inM hown hK hP 34 (wx_at (by omega) q1) rfl 7 (by decide) (hA9 _ mfM_32) (fun _ h9 => h9) rfl dM_noPart_18 ?_
      refine lv_icmp_gt (tgt := 28) hx hb dM_noPart_21 (by decide) (fun c21 => ?_) (fun c21 => ?_)
      · skip
        have no : ¬ (PA a b bu ∧ mo = false) := fun h => pa_3 hbu c21 h.1
        refine lv_iconst (v := nI (bN true)) hx hb dM_noPart_28 (by decide +kernel) ?_
        refine lv_goto (tgt := 33) hx hb dM_noPart_29 (by decide) ?_
        refine cvi (va_runV (As := [.int (nI 1), .int (nI (bN true))]) (rest := []) ⟨hx, hb, hml, hown, hA9⟩ (c_M_refuse l D cI cO cJ N ad ce1 H.size hN (nI 0) rs bu tl q1 1 true) (cwV 2 hA9 (gV mlM_38 miM_refuse msM_refuse mn_M mkM_refuse) rfl rfl rfl (by decide +kernel) ⟨Nat.le_of_ble_eq_true rfl, Nat.le_of_ble_eq_true rfl⟩) ⟨PM_bl, wx_recv hK hP (by omega) q1 rfl, PM_mk hK hP hD⟩ rfl rfl hl.1 rfl (lv_room (Nat.le_of_ble_eq_true rfl)) dM_noPart_33 ⟨Nat.le_of_ble_eq_true rfl, Nat.le_of_ble_eq_true rfl⟩) hS hD hA (fun r9 ce2 H locs hpost hP hD hS => ?_)
        obtain ⟨rfl, rf, rz⟩ := hpost
        have q10 : ce2 34 = .inr (3, [.int (nI 1), .ref (ad 35), .ref (ad 36), .ref (ad 37), .ref (ad 38), .ref (ad 39), .int (nI rs), .int (nI bu), .int (nI tl)]) := rz
        have fr11 : ∀ j, j ≠ 34 → ce2 j = ce j := fun j g0 => (rf j g0).trans (fr2 j g0)
        exact W.zret (v := (nI (bN true))) hx hb hr (by decide +kernel) (fun t ht hW => ⟨⟨(nI (bN true)), ce2, rfl, ⟨(fun j g0 => fr11 j g0), Or.inr ⟨no, rfl, q10⟩⟩, by rw [ht]; exact hP, va_K.moved hW.alike hK, hD⟩, hS.F ht⟩) hS.2.2 dM_noPart_36
      · skip
        refine lv_iload_n hx hb dM_noPart_24 rfl (lv_at hl 3 rfl) ?_
        refine lv_if_eq (tgt := 32) hx hb dM_noPart_25 (by decide) (fun c25 => ?_) (fun c25 => ?_)
        · skip
          have hm := bz_f c25
          have ok : PA a b bu := pa_mk c8 c13 c21
          refine lv_iconst (v := nI (bN false)) hx hb dM_noPart_32 (by decide +kernel) ?_
          refine cvi (va_runV (As := [.int (nI 1), .int (nI (bN false))]) (rest := []) ⟨hx, hb, hml, hown, hA9⟩ (c_M_refuse l D cI cO cJ N ad ce1 H.size hN (nI 0) rs bu tl q1 1 false) (cwV 2 hA9 (gV mlM_38 miM_refuse msM_refuse mn_M mkM_refuse) rfl rfl rfl (by decide +kernel) ⟨Nat.le_of_ble_eq_true rfl, Nat.le_of_ble_eq_true rfl⟩) ⟨PM_bl, wx_recv hK hP (by omega) q1 rfl, PM_mk hK hP hD⟩ rfl rfl hl.1 rfl (lv_room (Nat.le_of_ble_eq_true rfl)) dM_noPart_33 ⟨Nat.le_of_ble_eq_true rfl, Nat.le_of_ble_eq_true rfl⟩) hS hD hA (fun r12 ce2 H locs hpost hP hD hS => ?_)
          obtain ⟨rfl, rf, rz⟩ := hpost
          have q13 : ce2 34 = .inr (3, [.int (nI 0), .ref (ad 35), .ref (ad 36), .ref (ad 37), .ref (ad 38), .ref (ad 39), .int (nI rs), .int (nI bu), .int (nI tl)]) := rz
          have fr14 : ∀ j, j ≠ 34 → ce2 j = ce j := fun j g0 => (rf j g0).trans (fr2 j g0)
          exact W.zret (v := (nI (bN false))) hx hb hr (by decide +kernel) (fun t ht hW => ⟨⟨(nI (bN false)), ce2, rfl, ⟨(fun j g0 => fr14 j g0), Or.inl ⟨ok, hm, rfl, q13⟩⟩, by rw [ht]; exact hP, va_K.moved hW.alike hK, hD⟩, hS.F ht⟩) hS.2.2 dM_noPart_36
        · skip
          have hm9 := bz_t c25
          have no : ¬ (PA a b bu ∧ mo = false) := fun h => Bool.noConfusion (hm9.symm.trans h.2)
          refine lv_iconst (v := nI (bN true)) hx hb dM_noPart_28 (by decide +kernel) ?_
          refine lv_goto (tgt := 33) hx hb dM_noPart_29 (by decide) ?_
          refine cvi (va_runV (As := [.int (nI 1), .int (nI (bN true))]) (rest := []) ⟨hx, hb, hml, hown, hA9⟩ (c_M_refuse l D cI cO cJ N ad ce1 H.size hN (nI 0) rs bu tl q1 1 true) (cwV 2 hA9 (gV mlM_38 miM_refuse msM_refuse mn_M mkM_refuse) rfl rfl rfl (by decide +kernel) ⟨Nat.le_of_ble_eq_true rfl, Nat.le_of_ble_eq_true rfl⟩) ⟨PM_bl, wx_recv hK hP (by omega) q1 rfl, PM_mk hK hP hD⟩ rfl rfl hl.1 rfl (lv_room (Nat.le_of_ble_eq_true rfl)) dM_noPart_33 ⟨Nat.le_of_ble_eq_true rfl, Nat.le_of_ble_eq_true rfl⟩) hS hD hA (fun r15 ce2 H locs hpost hP hD hS => ?_)
          obtain ⟨rfl, rf, rz⟩ := hpost
          have q16 : ce2 34 = .inr (3, [.int (nI 1), .ref (ad 35), .ref (ad 36), .ref (ad 37), .ref (ad 38), .ref (ad 39), .int (nI rs), .int (nI bu), .int (nI tl)]) := rz
          have fr17 : ∀ j, j ≠ 34 → ce2 j = ce j := fun j g0 => (rf j g0).trans (fr2 j g0)
          exact W.zret (v := (nI (bN true))) hx hb hr (by decide +kernel) (fun t ht hW => ⟨⟨(nI (bN true)), ce2, rfl, ⟨(fun j g0 => fr17 j g0), Or.inr ⟨no, rfl, q16⟩⟩, by rw [ht]; exact hP, va_K.moved hW.alike hK, hD⟩, hS.F ht⟩) hS.2.2 dM_noPart_36

set_option maxHeartbeats 4000000 in
set_option maxRecDepth 100000 in
theorem c_M_counted (l : Launch) (D : va_G) (cI cO cJ : ClassId) (N : Nat) (ad : Nat → Nat) (ce : Nat → va_E) (sz : Nat) (hN : 40 ≤ N) (th : Int32) (rs bu tl : Nat) (h0 : ce 34 = .inr (3, [.int (th), .ref (ad 35), .ref (ad 36), .ref (ad 37), .ref (ad 38), .ref (ad 39), .int (nI rs), .int (nI bu), .int (nI tl)])) (mt : Nat → Int32) (h2 : ce 36 = .inl (cI, 4000, .inl mt)) (f : Nat → Nat) (hmt : ∀ i, i < bu → mt i = nI (f i)) (hf : ∀ i, i < bu → f i < 512) (hbu : bu ≤ 4000) (cg9 : Nat → Int32) (h3 : ce 37 = .inl (cI, 512, .inl cg9)) (u v : Nat) (huv : u ≤ v) (hv : v ≤ bu) : Met l yM_counted (.code yM_counted bM_counted 4 none :: WA) ({ frames := 0, cells := 0, slots := 0, locals := 0 }) (PM D (TY cI cO cJ) N ad ce sz [.ref (ad 34), .int (nI u), .int (nI v)]) (va_Qv (fun (ce1 : Nat → va_E) => (∀ j, j ≠ 37 → ce1 j = ce j) ∧ ∃ g1 : Nat → Int32, ce1 37 = .inl (cI, 512, .inl g1) ∧ ∀ w, w < 512 → g1 w = nI (eq f w u v)) (BW D (TY cI cO cJ) N ad (AW N ad sz)) (AW N ad sz)) 0 0 (AW N ad sz) := by
  refine Met.ofW (cc := bM_counted) (maxL := 4) (ret := none) (by decide) rfl ?_
  intro p e s m args below meth c s₁ B hml hv
  obtain ⟨rfl, hsz, hP, hK, hD0⟩ := hv
  have hx := B.exec
  have hb := B.bytes
  have hr := B.returns
  have hA9 : ∀ w ∈ WA, w.before _ s = true := fun w h => atoms_spec (ws := .code yM_counted bM_counted 4 none :: WA) B.pre w (List.mem_cons_of_mem _ h)
  have hown : s.vm.findClass RM = some m.cls := findClass_of_methodNamed B.named
  have hlocks := B.notSynchronized
  subst hsz
  have hD := aw_D (sz := s.heap.size) hD0
  generalize hAe : AW N ad s.heap.size = A at hD ⊢
  have hA : ∀ q, s.heap.size ≤ q → A q := fun q h => by rw [← hAe]; exact Or.inr h
  clear hAe hD0
  have hl := lv_entry ([.ref (ad 34), .int (nI u), .int (nI v)]) (n := 4) (Nat.le_of_ble_eq_true rfl)
  rw [lg_entry_eq]
  generalize (lg_sl ([.ref (ad 34), .int (nI u), .int (nI v)]) ++ List.replicate (4 - (lg_sl ([.ref (ad 34), .int (nI u), .int (nI v)])).length) Slot.unset).toArray = ls at hl ⊢
  have hl : lv_has ls 4 [(0, .ref (ad 34)), (1, .int (nI u)), (2, .int (nI v))] := hl
  refine st0 (A := A) (fun H locs hS hH => ?_)
  rw [← hH] at hP
  clear hH
  refine lv_iconst (v := nI 0) hx hb dM_counted_0 (by decide +kernel) ?_
  refine lv_istore_n (lv' := [(3, .int (nI 0)), (0, .ref (ad 34)), (1, .int (nI u)), (2, .int (nI v))]) hx hb dM_counted_1 rfl hl (by decide) rfl (fun ls hl => ?_)
  obtain ⟨cl, hcl0⟩ : ∃ z : Nat → va_E, ce = z := ⟨_, rfl⟩
  obtain ⟨i, hi0⟩ : ∃ z : Nat, (0) = z := ⟨_, rfl⟩
  obtain ⟨g1, hg10⟩ : ∃ z : Nat → Int32, (cg9) = z := ⟨_, rfl⟩
  replace hl : lv_has ls 4 [(3, .int (nI i)), (0, .ref (ad 34)), (1, .int (nI u)), (2, .int (nI v))] := by subst hi0 hg10; exact lv_sub hl [0, 1, 2, 3] rfl
  have J : (∀ j, j ≠ 37 → cl j = ce j) ∧ cl 37 = .inl (cI, 512, .inl g1) ∧ i ≤ 512 ∧ ∀ j, j < i → g1 j = nI 0 := by
    subst hcl0 hi0 hg10
    exact ⟨(fun j g0 => rfl), h3, ⟨by omega, fun j h => absurd h (by omega)⟩⟩
  rw [hcl0] at hP hD
  clear hcl0 hi0 hg10
  obtain ⟨k9, hk9⟩ : ∃ z9 : Nat, z9 = 512 - i := ⟨_, rfl⟩
  induction k9 using Nat.strongRecOn generalizing i g1 cl H locs ls with
  | ind k9 ih =>
    obtain ⟨fr2, q1, JJ⟩ := J
    obtain ⟨j1, j2⟩ := JJ
    refine lv_iload_n hx hb dM_counted_2 rfl (lv_at hl 0 rfl) ?_
    refine lv_sipush (v := nI 512) hx hb dM_counted_3 (by decide +kernel) ?_
    refine lv_icmp_ge (tgt := 22) hx hb dM_counted_6 (by decide) (fun c6 => ?_) (fun c6 => ?_)
    · skip
      have d1 := leN c6
      refine lv_iload_n hx hb dM_counted_22 rfl (lv_at hl 2 rfl) ?_
      refine lv_istore_n (lv' := [(3, .int (nI u)), (0, .ref (ad 34)), (1, .int (nI u)), (2, .int (nI v))]) hx hb dM_counted_23 rfl hl (by decide) rfl (fun ls hl => ?_)
      obtain ⟨cl, hcl0⟩ : ∃ z : Nat → va_E, cl = z := ⟨_, rfl⟩
      obtain ⟨k, hk0⟩ : ∃ z : Nat, (u) = z := ⟨_, rfl⟩
      obtain ⟨g2, hg20⟩ : ∃ z : Nat → Int32, (g1) = z := ⟨_, rfl⟩
      replace hl : lv_has ls 4 [(3, .int (nI k)), (0, .ref (ad 34)), (1, .int (nI u)), (2, .int (nI v))] := by subst hk0 hg20; exact lv_sub hl [0, 1, 2, 3] rfl
      have J : (∀ j, j ≠ 37 → cl j = ce j) ∧ cl 37 = .inl (cI, 512, .inl g2) ∧ u ≤ k ∧ k ≤ v ∧ ∀ w, w < 512 → g2 w = nI (eq f w u k) := by
        subst hcl0 hk0 hg20
        exact ⟨(fun j g0 => fr2 j g0), q1, ⟨Nat.le_refl u, huv, fun w hw => by rw [j2 w (by omega), show eq f w u u = 0 from ct_0 _ _]⟩⟩
      rw [hcl0] at hP hD
      clear hcl0 hk0 hg20
      obtain ⟨k9, hk9⟩ : ∃ z9 : Nat, z9 = v - k := ⟨_, rfl⟩
      induction k9 using Nat.strongRecOn generalizing k g2 cl H locs ls with
      | ind k9 ih =>
        obtain ⟨fr4, q3, JJ⟩ := J
        obtain ⟨j3, j4, j5⟩ := JJ
        refine lv_iload_n hx hb dM_counted_24 rfl (lv_at hl 0 rfl) ?_
        refine lv_iload_n hx hb dM_counted_25 rfl (lv_at hl 3 rfl) ?_
        refine lv_icmp_ge (tgt := 50) hx hb dM_counted_26 (by decide) (fun c26 => ?_) (fun c26 => ?_)
        · skip
          have d2 := leN c26
          have hkv : k = v := by omega
          subst hkv
          exact W.vret hx hb hr (fun t ht hW => ⟨⟨cl, rfl, ⟨(fun j g0 => fr4 j g0), g2, q3, j5⟩, by rw [ht]; exact hP, va_K.moved hW.alike hK, hD⟩, hS.F ht⟩) hS.2.2 dM_counted_50
        · skip
          have d2 := nleN c26
          have hfk := hf k (by omega)
          refine lv_aload_n hx hb dM_counted_29 rfl (lv_at hl 1 rfl) ?_
          refine va_get (D := D) (ci := 3) (v := .ref (ad 37)) (C := RM) (T := TM) (N := 9) hx hb hA9 inM hown hK hP 34 (wx_at (by omega) ((fr4 34 (by omega)).trans h0)) rfl 3 (by decide) (hA9 _ mfM_20) (fun _ h9 => h9) rfl dM_counted_30 ?_
          refine lv_aload_n hx hb dM_counted_33 rfl (lv_at hl 1 rfl) ?_
          refine va_get (D := D) (ci := 3) (v := .ref (ad 36)) (C := RM) (T := TM) (N := 9) hx hb hA9 inM hown hK hP 34 (wx_at (by omega) ((fr4 34 (by omega)).trans h0)) rfl 2 (by decide) (hA9 _ mfM_17) (fun _ h9 => h9) rfl dM_counted_34 ?_
          refine lv_iload_n hx hb dM_counted_37 rfl (lv_at hl 0 rfl) ?_
          refine va_iald hx hb hK hP 36 0 (wx_at (by omega) ((fr4 36 (by omega)).trans h2)) rfl (inN) dM_counted_38 ?_
          refine lv_topi (fun z5 ez5 => ?_)
          obtain rfl : z5 = nI (f k) := by rw [ez5, clN]; exact hmt k (by omega)
          refine lv_dup2_11 hx hb dM_counted_39 rfl rfl ?_
          refine va_iald hx hb hK hP 37 0 (wx_at (by omega) q3) rfl (inN) dM_counted_40 ?_
          refine lv_topi (fun z6 ez6 => ?_)
          obtain rfl : z6 = nI (eq f (f k) u k) := by rw [ez6, clN]; exact j5 _ hfk
          refine lv_iconst (v := nI 1) hx hb dM_counted_41 (by decide +kernel) ?_
          refine lv_iadd hx hb dM_counted_42 ?_
          refine lv_topi (fun z7 ez7 => ?_)
          obtain rfl : z7 = nI (eq f (f k) u k + 1) := by rw [ez7]; exact nI_add _ _
          refine va_iast hx hb hK hP hD hS 37 0 (wx_at (by omega) q3) rfl (inN) dM_counted_43 (fun H locs hP hD hS => ?_)
          rw [clN (a := (f k))] at hP hD
          obtain ⟨ce1, hce1⟩ : ∃ z9, z9 = va_up cl 37 (.inl (cI, 512, .inl (upd g2 (f k) (nI (eq f (f k) u k + 1))))) := ⟨_, rfl⟩
          rw [wx_set (by omega), ← hce1] at hP hD
          have q8 : ce1 34 = .inr (3, [.int (th), .ref (ad 35), .ref (ad 36), .ref (ad 37), .ref (ad 38), .ref (ad 39), .int (nI rs), .int (nI bu), .int (nI tl)]) := by rw [hce1, va_up_ne _ _ (by omega)]; exact ((fr4 34 (by omega)).trans h0)
          have q9 : ce1 36 = .inl (cI, 4000, .inl mt) := by rw [hce1, va_up_ne _ _ (by omega)]; exact ((fr4 36 (by omega)).trans h2)
          have q10 : ce1 37 = .inl (cI, 512, .inl (upd g2 (f k) (nI (eq f (f k) u k + 1)))) := by rw [hce1, va_up_self]
          have fr11 : ∀ j, j ≠ 37 → ce1 j = ce j := fun j h0 => by rw [hce1, va_up_ne _ _ h0]; exact fr4 j h0
          refine lv_iinc (v := nI (k + 1)) (lv' := [(3, .int (nI (k + 1))), (0, .ref (ad 34)), (1, .int (nI u)), (2, .int (nI v))]) hx hb dM_counted_44 hl (k := 0) rfl (nI_1 k) (by decide) rfl (fun ls hl => ?_)
          refine lv_goto (tgt := 24) hx hb dM_counted_47 (by decide) ?_
          exact ih _ (by omega) (ls := ls) (cl := ce1) (H := H) (locs := locs) (k := k + 1) (g2 := upd g2 (f k) (nI (eq f (f k) u k + 1))) (hP := hP) (hD := hD) (hS := hS) (hl := lv_sub hl [0, 1, 2, 3] rfl) (J := ⟨(fun j g0 => fr11 j g0), q10, ⟨by omega, by omega, fun w hw => if h9 : w = f k then (by rw [h9, eq_s1 j3 rfl]; exact pk_us) else (by rw [pk_un h9, eq_s0 j3 (Ne.symm h9)]; exact j5 w hw)⟩⟩) (hk9 := rfl)
    · skip
      have d1 := nleN c6
      refine lv_aload_n hx hb dM_counted_9 rfl (lv_at hl 1 rfl) ?_
      refine va_get (D := D) (ci := 3) (v := .ref (ad 37)) (C := RM) (T := TM) (N := 9) hx hb hA9 inM hown hK hP 34 (wx_at (by omega) ((fr2 34 (by omega)).trans h0)) rfl 3 (by decide) (hA9 _ mfM_20) (fun _ h9 => h9) rfl dM_counted_10 ?_
      refine lv_iload_n hx hb dM_counted_13 rfl (lv_at hl 0 rfl) ?_
      refine lv_iconst (v := nI 0) hx hb dM_counted_14 (by decide +kernel) ?_
      refine va_iast hx hb hK hP hD hS 37 0 (wx_at (by omega) q1) rfl (inN) dM_counted_15 (fun H locs hP hD hS => ?_)
      rw [clN (a := i)] at hP hD
      obtain ⟨ce1, hce1⟩ : ∃ z9, z9 = va_up cl 37 (.inl (cI, 512, .inl (upd g1 i (nI 0)))) := ⟨_, rfl⟩
      rw [wx_set (by omega), ← hce1] at hP hD
      have q12 : ce1 34 = .inr (3, [.int (th), .ref (ad 35), .ref (ad 36), .ref (ad 37), .ref (ad 38), .ref (ad 39), .int (nI rs), .int (nI bu), .int (nI tl)]) := by rw [hce1, va_up_ne _ _ (by omega)]; exact ((fr2 34 (by omega)).trans h0)
      have q13 : ce1 36 = .inl (cI, 4000, .inl mt) := by rw [hce1, va_up_ne _ _ (by omega)]; exact ((fr2 36 (by omega)).trans h2)
      have q14 : ce1 37 = .inl (cI, 512, .inl (upd g1 i (nI 0))) := by rw [hce1, va_up_self]
      have fr15 : ∀ j, j ≠ 37 → ce1 j = ce j := fun j h0 => by rw [hce1, va_up_ne _ _ h0]; exact fr2 j h0
      refine lv_iinc (v := nI (i + 1)) (lv' := [(3, .int (nI (i + 1))), (0, .ref (ad 34)), (1, .int (nI u)), (2, .int (nI v))]) hx hb dM_counted_16 hl (k := 0) rfl (nI_1 i) (by decide) rfl (fun ls hl => ?_)
      refine lv_goto (tgt := 2) hx hb dM_counted_19 (by decide) ?_
      exact ih _ (by omega) (ls := ls) (cl := ce1) (H := H) (locs := locs) (i := i + 1) (g1 := upd g1 i (nI 0)) (hP := hP) (hD := hD) (hS := hS) (hl := lv_sub hl [0, 1, 2, 3] rfl) (J := ⟨(fun j g0 => fr15 j g0), q14, ⟨by omega, fun j hj => if h9 : j = i then (by rw [h9]; exact pk_us) else (by rw [pk_un h9]; exact j2 j (by omega))⟩⟩) (hk9 := rfl)

set_option maxHeartbeats 4000000 in
set_option maxRecDepth 100000 in
theorem c_M_often (l : Launch) (D : va_G) (cI cO cJ : ClassId) (N : Nat) (ad : Nat → Nat) (ce : Nat → va_E) (sz : Nat) (hN : 40 ≤ N) (th : Int32) (rs bu tl : Nat) (h0 : ce 34 = .inr (3, [.int (th), .ref (ad 35), .ref (ad 36), .ref (ad 37), .ref (ad 38), .ref (ad 39), .int (nI rs), .int (nI bu), .int (nI tl)])) (mt : Nat → Int32) (h2 : ce 36 = .inl (cI, 4000, .inl mt)) (f : Nat → Nat) (hmt : ∀ i, i < bu → mt i = nI (f i)) (hf : ∀ i, i < bu → f i < 512) (hbu : bu ≤ 4000) (x a b : Int32) : Met l yM_often (.code yM_often bM_often 6 (some .int) :: WA) ({ frames := 2, cells := 0, slots := 0, locals := 45 }) (PM D (TY cI cO cJ) N ad ce sz [.ref (ad 34), .int (x), .int (a), .int (b)]) (va_Qi (fun (r : Int32) (ce1 : Nat → va_E) => (∀ j, j ≠ 34 → ce1 j = ce j) ∧ ((∃ y u v, y < 512 ∧ u ≤ v ∧ v ≤ bu ∧ x = nI y ∧ a = nI u ∧ b = nI v ∧ (r = nI (eq f y u v)) ∧ ce1 34 = .inr (3, [.int (nI 0), .ref (ad 35), .ref (ad 36), .ref (ad 37), .ref (ad 38), .ref (ad 39), .int (nI rs), .int (nI bu), .int (nI tl)])) ∨ (¬ QA 512 x a b bu ∧ r = nI 0 ∧ ce1 34 = .inr (3, [.int (nI 1), .ref (ad 35), .ref (ad 36), .ref (ad 37), .ref (ad 38), .ref (ad 39), .int (nI rs), .int (nI bu), .int (nI tl)])))) (BW D (TY cI cO cJ) N ad (AW N ad sz)) (AW N ad sz)) 0 0 (AW N ad sz) := by
  refine Met.ofW (cc := bM_often) (maxL := 6) (ret := (some .int)) (by decide) rfl ?_
  intro p e s m args below meth c s₁ B hml hv
  obtain ⟨rfl, hsz, hP, hK, hD0⟩ := hv
  have hx := B.exec
  have hb := B.bytes
  have hr := B.returns
  have hA9 : ∀ w ∈ WA, w.before _ s = true := fun w h => atoms_spec (ws := .code yM_often bM_often 6 (some .int) :: WA) B.pre w (List.mem_cons_of_mem _ h)
  have hown : s.vm.findClass RM = some m.cls := findClass_of_methodNamed B.named
  have hlocks := B.notSynchronized
  subst hsz
  have hD := aw_D (sz := s.heap.size) hD0
  generalize hAe : AW N ad s.heap.size = A at hD ⊢
  have hA : ∀ q, s.heap.size ≤ q → A q := fun q h => by rw [← hAe]; exact Or.inr h
  clear hAe hD0
  have hl := lv_entry ([.ref (ad 34), .int (x), .int (a), .int (b)]) (n := 6) (Nat.le_of_ble_eq_true rfl)
  rw [lg_entry_eq]
  generalize (lg_sl ([.ref (ad 34), .int (x), .int (a), .int (b)]) ++ List.replicate (6 - (lg_sl ([.ref (ad 34), .int (x), .int (a), .int (b)])).length) Slot.unset).toArray = ls at hl ⊢
  have hl : lv_has ls 6 [(0, .ref (ad 34)), (1, .int (x)), (2, .int (a)), (3, .int (b))] := hl
  refine st0 (A := A) (fun H locs hS hH => ?_)
  rw [← hH] at hP
  clear hH
  refine lv_aload_n hx hb dM_often_0 rfl (lv_at hl 0 rfl) ?_
  refine lv_iload_n hx hb dM_often_1 rfl (lv_at hl 2 rfl) ?_
  refine lv_iload_n hx hb dM_often_2 rfl (lv_at hl 3 rfl) ?_
  refine lv_iload_n hx hb dM_often_3 rfl (lv_at hl 1 rfl) ?_
  refine lv_if_lt (tgt := 14) hx hb dM_often_4 (by decide) (fun c4 => ?_) (fun c4 => ?_)
  · skip
    refine lv_iconst (v := nI (bN true)) hx hb dM_often_14 (by decide +kernel) ?_
    refine lv_goto (tgt := 19) hx hb dM_often_15 (by decide) ?_
    refine cvi (va_runV (As := [.int (a), .int (b), .int (nI (bN true))]) (rest := []) ⟨hx, hb, hml, hown, hA9⟩ (c_M_noPart l D cI cO cJ N ad ce H.size hN (th) rs bu tl h0 hbu (a) (b) true) (cwV 3 hA9 (gV mlM_42 miM_noPart msM_noPart mn_M mkM_noPart) rfl rfl rfl (by decide +kernel) ⟨Nat.le_of_ble_eq_true rfl, Nat.le_of_ble_eq_true rfl⟩) ⟨PM_bl, wx_recv hK hP (by omega) h0 rfl, PM_mk hK hP hD⟩ rfl rfl hl.1 rfl (lv_room (Nat.le_of_ble_eq_true rfl)) dM_often_19 ⟨Nat.le_of_ble_eq_true rfl, Nat.le_of_ble_eq_true rfl⟩) hS hD hA (fun r1 ce1 H locs hpost hP hD hS => ?_)
    obtain ⟨nf, ⟨pa, hm, rfl, nz⟩ | ⟨np, rfl, nz⟩⟩ := hpost
    · skip
      exact absurd hm (by decide)
    · skip
      have q2 : ce1 36 = .inl (cI, 4000, .inl mt) := (nf 36 (by omega)).trans h2
      have fr3 : ∀ j, j ≠ 34 → ce1 j = ce j := fun j g0 => (nf j g0)
      have no : ¬ QA 512 x a b bu := qa_1 (by omega) c4
      refine lv_if_eq (tgt := 27) hx hb dM_often_22 (by decide) (fun c22 => ?_) (fun c22 => ?_)
      · skip
        exact absurd c22 (by decide +kernel)
      · skip
        refine lv_iconst (v := nI 0) hx hb dM_often_25 (by decide +kernel) ?_
        exact W.iret (v := (nI 0)) hx hb hr (fun t ht hW => ⟨⟨(nI 0), ce1, rfl, ⟨(fun j g0 => fr3 j g0), Or.inr ⟨no, rfl, nz⟩⟩, by rw [ht]; exact hP, va_K.moved hW.alike hK, hD⟩, hS.F ht⟩) hS.2.2 dM_often_26
  · skip
    refine lv_iload_n hx hb dM_often_7 rfl (lv_at hl 1 rfl) ?_
    refine lv_sipush (v := nI 511) hx hb dM_often_8 (by decide +kernel) ?_
    refine lv_icmp_le (tgt := 18) hx hb dM_often_11 (by decide) (fun c11 => ?_) (fun c11 => ?_)
    · skip
      refine lv_iconst (v := nI (bN false)) hx hb dM_often_18 (by decide +kernel) ?_
      refine cvi (va_runV (As := [.int (a), .int (b), .int (nI (bN false))]) (rest := []) ⟨hx, hb, hml, hown, hA9⟩ (c_M_noPart l D cI cO cJ N ad ce H.size hN (th) rs bu tl h0 hbu (a) (b) false) (cwV 3 hA9 (gV mlM_42 miM_noPart msM_noPart mn_M mkM_noPart) rfl rfl rfl (by decide +kernel) ⟨Nat.le_of_ble_eq_true rfl, Nat.le_of_ble_eq_true rfl⟩) ⟨PM_bl, wx_recv hK hP (by omega) h0 rfl, PM_mk hK hP hD⟩ rfl rfl hl.1 rfl (lv_room (Nat.le_of_ble_eq_true rfl)) dM_often_19 ⟨Nat.le_of_ble_eq_true rfl, Nat.le_of_ble_eq_true rfl⟩) hS hD hA (fun r4 ce1 H locs hpost hP hD hS => ?_)
      obtain ⟨nf, ⟨pa, hm, rfl, nz⟩ | ⟨np, rfl, nz⟩⟩ := hpost
      · skip
        have q5 : ce1 36 = .inl (cI, 4000, .inl mt) := (nf 36 (by omega)).trans h2
        have fr6 : ∀ j, j ≠ 34 → ce1 j = ce j := fun j g0 => (nf j g0)
        obtain ⟨y, hy, rfl⟩ := rg_mk c4 c11
        obtain ⟨u, v, huv, hv, rfl, rfl⟩ := pa
        refine lv_if_eq (tgt := 27) hx hb dM_often_22 (by decide) (fun c22 => ?_) (fun c22 => ?_)
        · skip
          refine lv_iconst (v := nI 0) hx hb dM_often_27 (by decide +kernel) ?_
          refine lv_istore (lv' := [(4, .int (nI 0)), (0, .ref (ad 34)), (1, .int (nI y)), (2, .int (nI u)), (3, .int (nI v))]) hx hb dM_often_28 hl (by decide) rfl (fun ls hl => ?_)
          refine lv_iload_n hx hb dM_often_30 rfl (lv_at hl 3 rfl) ?_
          refine lv_istore (lv' := [(5, .int (nI u)), (4, .int (nI 0)), (0, .ref (ad 34)), (1, .int (nI y)), (2, .int (nI u)), (3, .int (nI v))]) hx hb dM_often_31 hl (by decide) rfl (fun ls hl => ?_)
          obtain ⟨k, hk0⟩ : ∃ z : Nat, (u) = z := ⟨_, rfl⟩
          replace hl : lv_has ls 6 [(5, .int (nI k)), (4, .int (nI (eq f y u k))), (0, .ref (ad 34)), (1, .int (nI y)), (2, .int (nI u)), (3, .int (nI v))] := by subst hk0; rw [show eq f y u u = 0 from ct_0 _ _]; exact lv_sub hl [0, 1, 2, 3, 4, 5] rfl
          have J : u ≤ k ∧ k ≤ v := by subst hk0; exact ⟨Nat.le_refl u, huv⟩
          clear hk0
          obtain ⟨k9, hk9⟩ : ∃ z9 : Nat, z9 = v - k := ⟨_, rfl⟩
          induction k9 using Nat.strongRecOn generalizing k ls with
          | ind k9 ih =>
            obtain ⟨j1, j2⟩ := J
            refine lv_iload hx hb dM_often_33 (lv_at hl 0 rfl) ?_
            refine lv_iload_n hx hb dM_often_35 rfl (lv_at hl 5 rfl) ?_
            refine lv_icmp_ge (tgt := 59) hx hb dM_often_36 (by decide) (fun c36 => ?_) (fun c36 => ?_)
            · skip
              have d2 := leN c36
              have hkv : k = v := by omega
              refine lv_iload hx hb dM_often_59 (lv_at hl 1 rfl) ?_
              exact W.iret (v := (nI (eq f y u k))) hx hb hr (fun t ht hW => ⟨⟨(nI (eq f y u k)), ce1, rfl, ⟨(fun j g0 => fr6 j g0), Or.inl ⟨y, u, v, by omega, huv, hv, rfl, rfl, rfl, by rw [hkv], nz⟩⟩, by rw [ht]; exact hP, va_K.moved hW.alike hK, hD⟩, hS.F ht⟩) hS.2.2 dM_often_61
            · skip
              have d2 := nleN c36
              have hfk := hf k (by omega)
              refine lv_aload_n hx hb dM_often_39 rfl (lv_at hl 2 rfl) ?_
              refine va_get (D := D) (ci := 3) (v := .ref (ad 36)) (C := RM) (T := TM) (N := 9) hx hb hA9 inM hown hK hP 34 (wx_at (by omega) nz) rfl 2 (by decide) (hA9 _ mfM_17) (fun _ h9 => h9) rfl dM_often_40 ?_
              refine lv_iload hx hb dM_often_43 (lv_at hl 0 rfl) ?_
              refine va_iald hx hb hK hP 36 0 (wx_at (by omega) q5) rfl (inN) dM_often_45 ?_
              refine lv_topi (fun z7 ez7 => ?_)
              obtain rfl : z7 = nI (f k) := by rw [ez7, clN]; exact hmt k (by omega)
              refine lv_iload_n hx hb dM_often_46 rfl (lv_at hl 3 rfl) ?_
              refine lv_icmp_ne (tgt := 53) hx hb dM_often_47 (by decide) (fun c47 => ?_) (fun c47 => ?_)
              · skip
                have hne := neN c47
                rw [← eq_s0 j1 hne] at hl
                refine lv_iinc (v := nI (k + 1)) (lv' := [(5, .int (nI (k + 1))), (4, .int (nI (eq f y u (k + 1)))), (0, .ref (ad 34)), (1, .int (nI y)), (2, .int (nI u)), (3, .int (nI v))]) hx hb dM_often_53 hl (k := 0) rfl (nI_1 k) (by decide) rfl (fun ls hl => ?_)
                refine lv_goto (tgt := 33) hx hb dM_often_56 (by decide) ?_
                exact ih _ (by omega) (ls := ls) (k := k + 1) (lv_sub hl [0, 1, 2, 3, 4, 5] rfl) (⟨by omega, by omega⟩) rfl
              · skip
                have hne := eqN c47
                refine lv_iinc (v := nI (eq f y u (k + 1))) (lv' := [(4, .int (nI (eq f y u (k + 1)))), (5, .int (nI k)), (0, .ref (ad 34)), (1, .int (nI y)), (2, .int (nI u)), (3, .int (nI v))]) hx hb dM_often_50 hl (k := 1) rfl ((nI_1 _).trans (congrArg nI (eq_s1 j1 hne).symm)) (by decide) rfl (fun ls hl => ?_)
                refine lv_iinc (v := nI (k + 1)) (lv' := [(5, .int (nI (k + 1))), (4, .int (nI (eq f y u (k + 1)))), (0, .ref (ad 34)), (1, .int (nI y)), (2, .int (nI u)), (3, .int (nI v))]) hx hb dM_often_53 hl (k := 1) rfl (nI_1 k) (by decide) rfl (fun ls hl => ?_)
                refine lv_goto (tgt := 33) hx hb dM_often_56 (by decide) ?_
                exact ih _ (by omega) (ls := ls) (k := k + 1) (lv_sub hl [0, 1, 2, 3, 4, 5] rfl) (⟨by omega, by omega⟩) rfl
        · skip
          exact absurd (show nI (bN false) = 0 from nI_0) c22
      · skip
        have q8 : ce1 36 = .inl (cI, 4000, .inl mt) := (nf 36 (by omega)).trans h2
        have fr9 : ∀ j, j ≠ 34 → ce1 j = ce j := fun j g0 => (nf j g0)
        have no : ¬ QA 512 x a b bu := fun h => np ⟨qa_p h, rfl⟩
        refine lv_if_eq (tgt := 27) hx hb dM_often_22 (by decide) (fun c22 => ?_) (fun c22 => ?_)
        · skip
          exact absurd c22 (by decide +kernel)
        · skip
          refine lv_iconst (v := nI 0) hx hb dM_often_25 (by decide +kernel) ?_
          exact W.iret (v := (nI 0)) hx hb hr (fun t ht hW => ⟨⟨(nI 0), ce1, rfl, ⟨(fun j g0 => fr9 j g0), Or.inr ⟨no, rfl, nz⟩⟩, by rw [ht]; exact hP, va_K.moved hW.alike hK, hD⟩, hS.F ht⟩) hS.2.2 dM_often_26
    · skip
      refine lv_iconst (v := nI (bN true)) hx hb dM_often_14 (by decide +kernel) ?_
      refine lv_goto (tgt := 19) hx hb dM_often_15 (by decide) ?_
      refine cvi (va_runV (As := [.int (a), .int (b), .int (nI (bN true))]) (rest := []) ⟨hx, hb, hml, hown, hA9⟩ (c_M_noPart l D cI cO cJ N ad ce H.size hN (th) rs bu tl h0 hbu (a) (b) true) (cwV 3 hA9 (gV mlM_42 miM_noPart msM_noPart mn_M mkM_noPart) rfl rfl rfl (by decide +kernel) ⟨Nat.le_of_ble_eq_true rfl, Nat.le_of_ble_eq_true rfl⟩) ⟨PM_bl, wx_recv hK hP (by omega) h0 rfl, PM_mk hK hP hD⟩ rfl rfl hl.1 rfl (lv_room (Nat.le_of_ble_eq_true rfl)) dM_often_19 ⟨Nat.le_of_ble_eq_true rfl, Nat.le_of_ble_eq_true rfl⟩) hS hD hA (fun r10 ce1 H locs hpost hP hD hS => ?_)
      obtain ⟨nf, ⟨pa, hm, rfl, nz⟩ | ⟨np, rfl, nz⟩⟩ := hpost
      · skip
        exact absurd hm (by decide)
      · skip
        have q11 : ce1 36 = .inl (cI, 4000, .inl mt) := (nf 36 (by omega)).trans h2
        have fr12 : ∀ j, j ≠ 34 → ce1 j = ce j := fun j g0 => (nf j g0)
        have no : ¬ QA 512 x a b bu := qa_2 (g := 511) rfl (by omega) (nle_lt c11)
        refine lv_if_eq (tgt := 27) hx hb dM_often_22 (by decide) (fun c22 => ?_) (fun c22 => ?_)
        · skip
          exact absurd c22 (by decide +kernel)
        · skip
          refine lv_iconst (v := nI 0) hx hb dM_often_25 (by decide +kernel) ?_
          exact W.iret (v := (nI 0)) hx hb hr (fun t ht hW => ⟨⟨(nI 0), ce1, rfl, ⟨(fun j g0 => fr12 j g0), Or.inr ⟨no, rfl, nz⟩⟩, by rw [ht]; exact hP, va_K.moved hW.alike hK, hD⟩, hS.F ht⟩) hS.2.2 dM_often_26

set_option maxHeartbeats 4000000 in
set_option maxRecDepth 100000 in
theorem c_M_below (l : Launch) (D : va_G) (cI cO cJ : ClassId) (N : Nat) (ad : Nat → Nat) (ce : Nat → va_E) (sz : Nat) (hN : 40 ≤ N) (th : Int32) (rs bu tl : Nat) (h0 : ce 34 = .inr (3, [.int (th), .ref (ad 35), .ref (ad 36), .ref (ad 37), .ref (ad 38), .ref (ad 39), .int (nI rs), .int (nI bu), .int (nI tl)])) (mt : Nat → Int32) (h2 : ce 36 = .inl (cI, 4000, .inl mt)) (f : Nat → Nat) (hmt : ∀ i, i < bu → mt i = nI (f i)) (hf : ∀ i, i < bu → f i < 512) (hbu : bu ≤ 4000) (x a b : Int32) : Met l yM_below (.code yM_below bM_below 6 (some .int) :: WA) ({ frames := 2, cells := 0, slots := 0, locals := 45 }) (PM D (TY cI cO cJ) N ad ce sz [.ref (ad 34), .int (x), .int (a), .int (b)]) (va_Qi (fun (r : Int32) (ce1 : Nat → va_E) => (∀ j, j ≠ 34 → ce1 j = ce j) ∧ ((∃ y u v, y < 513 ∧ u ≤ v ∧ v ≤ bu ∧ x = nI y ∧ a = nI u ∧ b = nI v ∧ (r = nI (lq f y u v)) ∧ ce1 34 = .inr (3, [.int (nI 0), .ref (ad 35), .ref (ad 36), .ref (ad 37), .ref (ad 38), .ref (ad 39), .int (nI rs), .int (nI bu), .int (nI tl)])) ∨ (¬ QA 513 x a b bu ∧ r = nI 0 ∧ ce1 34 = .inr (3, [.int (nI 1), .ref (ad 35), .ref (ad 36), .ref (ad 37), .ref (ad 38), .ref (ad 39), .int (nI rs), .int (nI bu), .int (nI tl)])))) (BW D (TY cI cO cJ) N ad (AW N ad sz)) (AW N ad sz)) 0 0 (AW N ad sz) := by
  refine Met.ofW (cc := bM_below) (maxL := 6) (ret := (some .int)) (by decide) rfl ?_
  intro p e s m args below meth c s₁ B hml hv
  obtain ⟨rfl, hsz, hP, hK, hD0⟩ := hv
  have hx := B.exec
  have hb := B.bytes
  have hr := B.returns
  have hA9 : ∀ w ∈ WA, w.before _ s = true := fun w h => atoms_spec (ws := .code yM_below bM_below 6 (some .int) :: WA) B.pre w (List.mem_cons_of_mem _ h)
  have hown : s.vm.findClass RM = some m.cls := findClass_of_methodNamed B.named
  have hlocks := B.notSynchronized
  subst hsz
  have hD := aw_D (sz := s.heap.size) hD0
  generalize hAe : AW N ad s.heap.size = A at hD ⊢
  have hA : ∀ q, s.heap.size ≤ q → A q := fun q h => by rw [← hAe]; exact Or.inr h
  clear hAe hD0
  have hl := lv_entry ([.ref (ad 34), .int (x), .int (a), .int (b)]) (n := 6) (Nat.le_of_ble_eq_true rfl)
  rw [lg_entry_eq]
  generalize (lg_sl ([.ref (ad 34), .int (x), .int (a), .int (b)]) ++ List.replicate (6 - (lg_sl ([.ref (ad 34), .int (x), .int (a), .int (b)])).length) Slot.unset).toArray = ls at hl ⊢
  have hl : lv_has ls 6 [(0, .ref (ad 34)), (1, .int (x)), (2, .int (a)), (3, .int (b))] := hl
  refine st0 (A := A) (fun H locs hS hH => ?_)
  rw [← hH] at hP
  clear hH
  refine lv_aload_n hx hb dM_below_0 rfl (lv_at hl 0 rfl) ?_
  refine lv_iload_n hx hb dM_below_1 rfl (lv_at hl 2 rfl) ?_
  refine lv_iload_n hx hb dM_below_2 rfl (lv_at hl 3 rfl) ?_
  refine lv_iload_n hx hb dM_below_3 rfl (lv_at hl 1 rfl) ?_
  refine lv_if_lt (tgt := 14) hx hb dM_below_4 (by decide) (fun c4 => ?_) (fun c4 => ?_)
  · skip
    refine lv_iconst (v := nI (bN true)) hx hb dM_below_14 (by decide +kernel) ?_
    refine lv_goto (tgt := 19) hx hb dM_below_15 (by decide) ?_
    refine cvi (va_runV (As := [.int (a), .int (b), .int (nI (bN true))]) (rest := []) ⟨hx, hb, hml, hown, hA9⟩ (c_M_noPart l D cI cO cJ N ad ce H.size hN (th) rs bu tl h0 hbu (a) (b) true) (cwV 3 hA9 (gV mlM_42 miM_noPart msM_noPart mn_M mkM_noPart) rfl rfl rfl (by decide +kernel) ⟨Nat.le_of_ble_eq_true rfl, Nat.le_of_ble_eq_true rfl⟩) ⟨PM_bl, wx_recv hK hP (by omega) h0 rfl, PM_mk hK hP hD⟩ rfl rfl hl.1 rfl (lv_room (Nat.le_of_ble_eq_true rfl)) dM_below_19 ⟨Nat.le_of_ble_eq_true rfl, Nat.le_of_ble_eq_true rfl⟩) hS hD hA (fun r1 ce1 H locs hpost hP hD hS => ?_)
    obtain ⟨nf, ⟨pa, hm, rfl, nz⟩ | ⟨np, rfl, nz⟩⟩ := hpost
    · skip
      exact absurd hm (by decide)
    · skip
      have q2 : ce1 36 = .inl (cI, 4000, .inl mt) := (nf 36 (by omega)).trans h2
      have fr3 : ∀ j, j ≠ 34 → ce1 j = ce j := fun j g0 => (nf j g0)
      have no : ¬ QA 513 x a b bu := qa_1 (by omega) c4
      refine lv_if_eq (tgt := 27) hx hb dM_below_22 (by decide) (fun c22 => ?_) (fun c22 => ?_)
      · skip
        exact absurd c22 (by decide +kernel)
      · skip
        refine lv_iconst (v := nI 0) hx hb dM_below_25 (by decide +kernel) ?_
        exact W.iret (v := (nI 0)) hx hb hr (fun t ht hW => ⟨⟨(nI 0), ce1, rfl, ⟨(fun j g0 => fr3 j g0), Or.inr ⟨no, rfl, nz⟩⟩, by rw [ht]; exact hP, va_K.moved hW.alike hK, hD⟩, hS.F ht⟩) hS.2.2 dM_below_26
  · skip
    refine lv_iload_n hx hb dM_below_7 rfl (lv_at hl 1 rfl) ?_
    refine lv_sipush (v := nI 512) hx hb dM_below_8 (by decide +kernel) ?_
    refine lv_icmp_le (tgt := 18) hx hb dM_below_11 (by decide) (fun c11 => ?_) (fun c11 => ?_)
    · skip
      refine lv_iconst (v := nI (bN false)) hx hb dM_below_18 (by decide +kernel) ?_
      refine cvi (va_runV (As := [.int (a), .int (b), .int (nI (bN false))]) (rest := []) ⟨hx, hb, hml, hown, hA9⟩ (c_M_noPart l D cI cO cJ N ad ce H.size hN (th) rs bu tl h0 hbu (a) (b) false) (cwV 3 hA9 (gV mlM_42 miM_noPart msM_noPart mn_M mkM_noPart) rfl rfl rfl (by decide +kernel) ⟨Nat.le_of_ble_eq_true rfl, Nat.le_of_ble_eq_true rfl⟩) ⟨PM_bl, wx_recv hK hP (by omega) h0 rfl, PM_mk hK hP hD⟩ rfl rfl hl.1 rfl (lv_room (Nat.le_of_ble_eq_true rfl)) dM_below_19 ⟨Nat.le_of_ble_eq_true rfl, Nat.le_of_ble_eq_true rfl⟩) hS hD hA (fun r4 ce1 H locs hpost hP hD hS => ?_)
      obtain ⟨nf, ⟨pa, hm, rfl, nz⟩ | ⟨np, rfl, nz⟩⟩ := hpost
      · skip
        have q5 : ce1 36 = .inl (cI, 4000, .inl mt) := (nf 36 (by omega)).trans h2
        have fr6 : ∀ j, j ≠ 34 → ce1 j = ce j := fun j g0 => (nf j g0)
        obtain ⟨y, hy, rfl⟩ := rg_mk c4 c11
        obtain ⟨u, v, huv, hv, rfl, rfl⟩ := pa
        refine lv_if_eq (tgt := 27) hx hb dM_below_22 (by decide) (fun c22 => ?_) (fun c22 => ?_)
        · skip
          refine lv_iconst (v := nI 0) hx hb dM_below_27 (by decide +kernel) ?_
          refine lv_istore (lv' := [(4, .int (nI 0)), (0, .ref (ad 34)), (1, .int (nI y)), (2, .int (nI u)), (3, .int (nI v))]) hx hb dM_below_28 hl (by decide) rfl (fun ls hl => ?_)
          refine lv_iload_n hx hb dM_below_30 rfl (lv_at hl 3 rfl) ?_
          refine lv_istore (lv' := [(5, .int (nI u)), (4, .int (nI 0)), (0, .ref (ad 34)), (1, .int (nI y)), (2, .int (nI u)), (3, .int (nI v))]) hx hb dM_below_31 hl (by decide) rfl (fun ls hl => ?_)
          obtain ⟨k, hk0⟩ : ∃ z : Nat, (u) = z := ⟨_, rfl⟩
          replace hl : lv_has ls 6 [(5, .int (nI k)), (4, .int (nI (lq f y u k))), (0, .ref (ad 34)), (1, .int (nI y)), (2, .int (nI u)), (3, .int (nI v))] := by subst hk0; rw [show lq f y u u = 0 from ct_0 _ _]; exact lv_sub hl [0, 1, 2, 3, 4, 5] rfl
          have J : u ≤ k ∧ k ≤ v := by subst hk0; exact ⟨Nat.le_refl u, huv⟩
          clear hk0
          obtain ⟨k9, hk9⟩ : ∃ z9 : Nat, z9 = v - k := ⟨_, rfl⟩
          induction k9 using Nat.strongRecOn generalizing k ls with
          | ind k9 ih =>
            obtain ⟨j1, j2⟩ := J
            refine lv_iload hx hb dM_below_33 (lv_at hl 0 rfl) ?_
            refine lv_iload_n hx hb dM_below_35 rfl (lv_at hl 5 rfl) ?_
            refine lv_icmp_ge (tgt := 59) hx hb dM_below_36 (by decide) (fun c36 => ?_) (fun c36 => ?_)
            · skip
              have d2 := leN c36
              have hkv : k = v := by omega
              refine lv_iload hx hb dM_below_59 (lv_at hl 1 rfl) ?_
              exact W.iret (v := (nI (lq f y u k))) hx hb hr (fun t ht hW => ⟨⟨(nI (lq f y u k)), ce1, rfl, ⟨(fun j g0 => fr6 j g0), Or.inl ⟨y, u, v, by omega, huv, hv, rfl, rfl, rfl, by rw [hkv], nz⟩⟩, by rw [ht]; exact hP, va_K.moved hW.alike hK, hD⟩, hS.F ht⟩) hS.2.2 dM_below_61
            · skip
              have d2 := nleN c36
              have hfk := hf k (by omega)
              refine lv_aload_n hx hb dM_below_39 rfl (lv_at hl 2 rfl) ?_
              refine va_get (D := D) (ci := 3) (v := .ref (ad 36)) (C := RM) (T := TM) (N := 9) hx hb hA9 inM hown hK hP 34 (wx_at (by omega) nz) rfl 2 (by decide) (hA9 _ mfM_17) (fun _ h9 => h9) rfl dM_below_40 ?_
              refine lv_iload hx hb dM_below_43 (lv_at hl 0 rfl) ?_
              refine va_iald hx hb hK hP 36 0 (wx_at (by omega) q5) rfl (inN) dM_below_45 ?_
              refine lv_topi (fun z7 ez7 => ?_)
              obtain rfl : z7 = nI (f k) := by rw [ez7, clN]; exact hmt k (by omega)
              refine lv_iload_n hx hb dM_below_46 rfl (lv_at hl 3 rfl) ?_
              refine lv_icmp_ge (tgt := 53) hx hb dM_below_47 (by decide) (fun c47 => ?_) (fun c47 => ?_)
              · skip
                have hne := leN c47
                rw [← lq_s0 j1 hne] at hl
                refine lv_iinc (v := nI (k + 1)) (lv' := [(5, .int (nI (k + 1))), (4, .int (nI (lq f y u (k + 1)))), (0, .ref (ad 34)), (1, .int (nI y)), (2, .int (nI u)), (3, .int (nI v))]) hx hb dM_below_53 hl (k := 0) rfl (nI_1 k) (by decide) rfl (fun ls hl => ?_)
                refine lv_goto (tgt := 33) hx hb dM_below_56 (by decide) ?_
                exact ih _ (by omega) (ls := ls) (k := k + 1) (lv_sub hl [0, 1, 2, 3, 4, 5] rfl) (⟨by omega, by omega⟩) rfl
              · skip
                have hne := nleN c47
                refine lv_iinc (v := nI (lq f y u (k + 1))) (lv' := [(4, .int (nI (lq f y u (k + 1)))), (5, .int (nI k)), (0, .ref (ad 34)), (1, .int (nI y)), (2, .int (nI u)), (3, .int (nI v))]) hx hb dM_below_50 hl (k := 1) rfl ((nI_1 _).trans (congrArg nI (lq_s1 j1 hne).symm)) (by decide) rfl (fun ls hl => ?_)
                refine lv_iinc (v := nI (k + 1)) (lv' := [(5, .int (nI (k + 1))), (4, .int (nI (lq f y u (k + 1)))), (0, .ref (ad 34)), (1, .int (nI y)), (2, .int (nI u)), (3, .int (nI v))]) hx hb dM_below_53 hl (k := 1) rfl (nI_1 k) (by decide) rfl (fun ls hl => ?_)
                refine lv_goto (tgt := 33) hx hb dM_below_56 (by decide) ?_
                exact ih _ (by omega) (ls := ls) (k := k + 1) (lv_sub hl [0, 1, 2, 3, 4, 5] rfl) (⟨by omega, by omega⟩) rfl
        · skip
          exact absurd (show nI (bN false) = 0 from nI_0) c22
      · skip
        have q8 : ce1 36 = .inl (cI, 4000, .inl mt) := (nf 36 (by omega)).trans h2
        have fr9 : ∀ j, j ≠ 34 → ce1 j = ce j := fun j g0 => (nf j g0)
        have no : ¬ QA 513 x a b bu := fun h => np ⟨qa_p h, rfl⟩
        refine lv_if_eq (tgt := 27) hx hb dM_below_22 (by decide) (fun c22 => ?_) (fun c22 => ?_)
        · skip
          exact absurd c22 (by decide +kernel)
        · skip
          refine lv_iconst (v := nI 0) hx hb dM_below_25 (by decide +kernel) ?_
          exact W.iret (v := (nI 0)) hx hb hr (fun t ht hW => ⟨⟨(nI 0), ce1, rfl, ⟨(fun j g0 => fr9 j g0), Or.inr ⟨no, rfl, nz⟩⟩, by rw [ht]; exact hP, va_K.moved hW.alike hK, hD⟩, hS.F ht⟩) hS.2.2 dM_below_26
    · skip
      refine lv_iconst (v := nI (bN true)) hx hb dM_below_14 (by decide +kernel) ?_
      refine lv_goto (tgt := 19) hx hb dM_below_15 (by decide) ?_
      refine cvi (va_runV (As := [.int (a), .int (b), .int (nI (bN true))]) (rest := []) ⟨hx, hb, hml, hown, hA9⟩ (c_M_noPart l D cI cO cJ N ad ce H.size hN (th) rs bu tl h0 hbu (a) (b) true) (cwV 3 hA9 (gV mlM_42 miM_noPart msM_noPart mn_M mkM_noPart) rfl rfl rfl (by decide +kernel) ⟨Nat.le_of_ble_eq_true rfl, Nat.le_of_ble_eq_true rfl⟩) ⟨PM_bl, wx_recv hK hP (by omega) h0 rfl, PM_mk hK hP hD⟩ rfl rfl hl.1 rfl (lv_room (Nat.le_of_ble_eq_true rfl)) dM_below_19 ⟨Nat.le_of_ble_eq_true rfl, Nat.le_of_ble_eq_true rfl⟩) hS hD hA (fun r10 ce1 H locs hpost hP hD hS => ?_)
      obtain ⟨nf, ⟨pa, hm, rfl, nz⟩ | ⟨np, rfl, nz⟩⟩ := hpost
      · skip
        exact absurd hm (by decide)
      · skip
        have q11 : ce1 36 = .inl (cI, 4000, .inl mt) := (nf 36 (by omega)).trans h2
        have fr12 : ∀ j, j ≠ 34 → ce1 j = ce j := fun j g0 => (nf j g0)
        have no : ¬ QA 513 x a b bu := qa_2 (g := 512) rfl (by omega) (nle_lt c11)
        refine lv_if_eq (tgt := 27) hx hb dM_below_22 (by decide) (fun c22 => ?_) (fun c22 => ?_)
        · skip
          exact absurd c22 (by decide +kernel)
        · skip
          refine lv_iconst (v := nI 0) hx hb dM_below_25 (by decide +kernel) ?_
          exact W.iret (v := (nI 0)) hx hb hr (fun t ht hW => ⟨⟨(nI 0), ce1, rfl, ⟨(fun j g0 => fr12 j g0), Or.inr ⟨no, rfl, nz⟩⟩, by rw [ht]; exact hP, va_K.moved hW.alike hK, hD⟩, hS.F ht⟩) hS.2.2 dM_below_26

set_option maxHeartbeats 4000000 in
set_option maxRecDepth 100000 in
theorem c_M_before (l : Launch) (D : va_G) (cI cO cJ : ClassId) (N : Nat) (ad : Nat → Nat) (ce : Nat → va_E) (sz : Nat) (hN : 40 ≤ N) (th : Int32) (rs bu tl : Nat) (h0 : ce 34 = .inr (3, [.int (th), .ref (ad 35), .ref (ad 36), .ref (ad 37), .ref (ad 38), .ref (ad 39), .int (nI rs), .int (nI bu), .int (nI tl)])) (mt : Nat → Int32) (h2 : ce 36 = .inl (cI, 4000, .inl mt)) (f : Nat → Nat) (hmt : ∀ i, i < bu → mt i = nI (f i)) (hf : ∀ i, i < bu → f i < 512) (hbu : bu ≤ 4000) (x a b : Int32) : Met l yM_before (.code yM_before bM_before 6 (some .int) :: WA) ({ frames := 2, cells := 0, slots := 0, locals := 45 }) (PM D (TY cI cO cJ) N ad ce sz [.ref (ad 34), .int (x), .int (a), .int (b)]) (va_Qi (fun (r : Int32) (ce1 : Nat → va_E) => (∀ j, j ≠ 34 → ce1 j = ce j) ∧ ((∃ y u v, y < 512 ∧ u ≤ v ∧ v ≤ bu ∧ x = nI y ∧ a = nI u ∧ b = nI v ∧ (∃ o, r = bI o ∧ BM f y u v o) ∧ ce1 34 = .inr (3, [.int (nI 0), .ref (ad 35), .ref (ad 36), .ref (ad 37), .ref (ad 38), .ref (ad 39), .int (nI rs), .int (nI bu), .int (nI tl)])) ∨ (¬ QA 512 x a b bu ∧ r = nI 0 ∧ ce1 34 = .inr (3, [.int (nI 1), .ref (ad 35), .ref (ad 36), .ref (ad 37), .ref (ad 38), .ref (ad 39), .int (nI rs), .int (nI bu), .int (nI tl)])))) (BW D (TY cI cO cJ) N ad (AW N ad sz)) (AW N ad sz)) 0 0 (AW N ad sz) := by
  refine Met.ofW (cc := bM_before) (maxL := 6) (ret := (some .int)) (by decide) rfl ?_
  intro p e s m args below meth c s₁ B hml hv
  obtain ⟨rfl, hsz, hP, hK, hD0⟩ := hv
  have hx := B.exec
  have hb := B.bytes
  have hr := B.returns
  have hA9 : ∀ w ∈ WA, w.before _ s = true := fun w h => atoms_spec (ws := .code yM_before bM_before 6 (some .int) :: WA) B.pre w (List.mem_cons_of_mem _ h)
  have hown : s.vm.findClass RM = some m.cls := findClass_of_methodNamed B.named
  have hlocks := B.notSynchronized
  subst hsz
  have hD := aw_D (sz := s.heap.size) hD0
  generalize hAe : AW N ad s.heap.size = A at hD ⊢
  have hA : ∀ q, s.heap.size ≤ q → A q := fun q h => by rw [← hAe]; exact Or.inr h
  clear hAe hD0
  have hl := lv_entry ([.ref (ad 34), .int (x), .int (a), .int (b)]) (n := 6) (Nat.le_of_ble_eq_true rfl)
  rw [lg_entry_eq]
  generalize (lg_sl ([.ref (ad 34), .int (x), .int (a), .int (b)]) ++ List.replicate (6 - (lg_sl ([.ref (ad 34), .int (x), .int (a), .int (b)])).length) Slot.unset).toArray = ls at hl ⊢
  have hl : lv_has ls 6 [(0, .ref (ad 34)), (1, .int (x)), (2, .int (a)), (3, .int (b))] := hl
  refine st0 (A := A) (fun H locs hS hH => ?_)
  rw [← hH] at hP
  clear hH
  refine lv_aload_n hx hb dM_before_0 rfl (lv_at hl 0 rfl) ?_
  refine lv_iload_n hx hb dM_before_1 rfl (lv_at hl 2 rfl) ?_
  refine lv_iload_n hx hb dM_before_2 rfl (lv_at hl 3 rfl) ?_
  refine lv_iload_n hx hb dM_before_3 rfl (lv_at hl 1 rfl) ?_
  refine lv_if_lt (tgt := 14) hx hb dM_before_4 (by decide) (fun c4 => ?_) (fun c4 => ?_)
  · skip
    refine lv_iconst (v := nI (bN true)) hx hb dM_before_14 (by decide +kernel) ?_
    refine lv_goto (tgt := 19) hx hb dM_before_15 (by decide) ?_
    refine cvi (va_runV (As := [.int (a), .int (b), .int (nI (bN true))]) (rest := []) ⟨hx, hb, hml, hown, hA9⟩ (c_M_noPart l D cI cO cJ N ad ce H.size hN (th) rs bu tl h0 hbu (a) (b) true) (cwV 3 hA9 (gV mlM_42 miM_noPart msM_noPart mn_M mkM_noPart) rfl rfl rfl (by decide +kernel) ⟨Nat.le_of_ble_eq_true rfl, Nat.le_of_ble_eq_true rfl⟩) ⟨PM_bl, wx_recv hK hP (by omega) h0 rfl, PM_mk hK hP hD⟩ rfl rfl hl.1 rfl (lv_room (Nat.le_of_ble_eq_true rfl)) dM_before_19 ⟨Nat.le_of_ble_eq_true rfl, Nat.le_of_ble_eq_true rfl⟩) hS hD hA (fun r1 ce1 H locs hpost hP hD hS => ?_)
    obtain ⟨nf, ⟨pa, hm, rfl, nz⟩ | ⟨np, rfl, nz⟩⟩ := hpost
    · skip
      exact absurd hm (by decide)
    · skip
      have q2 : ce1 36 = .inl (cI, 4000, .inl mt) := (nf 36 (by omega)).trans h2
      have fr3 : ∀ j, j ≠ 34 → ce1 j = ce j := fun j g0 => (nf j g0)
      have no : ¬ QA 512 x a b bu := qa_1 (by omega) c4
      refine lv_if_eq (tgt := 27) hx hb dM_before_22 (by decide) (fun c22 => ?_) (fun c22 => ?_)
      · skip
        exact absurd c22 (by decide +kernel)
      · skip
        refine lv_iconst (v := nI 0) hx hb dM_before_25 (by decide +kernel) ?_
        exact W.iret (v := (nI 0)) hx hb hr (fun t ht hW => ⟨⟨(nI 0), ce1, rfl, ⟨(fun j g0 => fr3 j g0), Or.inr ⟨no, rfl, nz⟩⟩, by rw [ht]; exact hP, va_K.moved hW.alike hK, hD⟩, hS.F ht⟩) hS.2.2 dM_before_26
  · skip
    refine lv_iload_n hx hb dM_before_7 rfl (lv_at hl 1 rfl) ?_
    refine lv_sipush (v := nI 511) hx hb dM_before_8 (by decide +kernel) ?_
    refine lv_icmp_le (tgt := 18) hx hb dM_before_11 (by decide) (fun c11 => ?_) (fun c11 => ?_)
    · skip
      refine lv_iconst (v := nI (bN false)) hx hb dM_before_18 (by decide +kernel) ?_
      refine cvi (va_runV (As := [.int (a), .int (b), .int (nI (bN false))]) (rest := []) ⟨hx, hb, hml, hown, hA9⟩ (c_M_noPart l D cI cO cJ N ad ce H.size hN (th) rs bu tl h0 hbu (a) (b) false) (cwV 3 hA9 (gV mlM_42 miM_noPart msM_noPart mn_M mkM_noPart) rfl rfl rfl (by decide +kernel) ⟨Nat.le_of_ble_eq_true rfl, Nat.le_of_ble_eq_true rfl⟩) ⟨PM_bl, wx_recv hK hP (by omega) h0 rfl, PM_mk hK hP hD⟩ rfl rfl hl.1 rfl (lv_room (Nat.le_of_ble_eq_true rfl)) dM_before_19 ⟨Nat.le_of_ble_eq_true rfl, Nat.le_of_ble_eq_true rfl⟩) hS hD hA (fun r4 ce1 H locs hpost hP hD hS => ?_)
      obtain ⟨nf, ⟨pa, hm, rfl, nz⟩ | ⟨np, rfl, nz⟩⟩ := hpost
      · skip
        have q5 : ce1 36 = .inl (cI, 4000, .inl mt) := (nf 36 (by omega)).trans h2
        have fr6 : ∀ j, j ≠ 34 → ce1 j = ce j := fun j g0 => (nf j g0)
        obtain ⟨y, hy, rfl⟩ := rg_mk c4 c11
        obtain ⟨u, v, huv, hv, rfl, rfl⟩ := pa
        refine lv_if_eq (tgt := 27) hx hb dM_before_22 (by decide) (fun c22 => ?_) (fun c22 => ?_)
        · skip
          refine lv_iconst (v := bI none) hx hb dM_before_27 (by decide +kernel) ?_
          refine lv_istore (lv' := [(4, .int (bI none)), (0, .ref (ad 34)), (1, .int (nI y)), (2, .int (nI u)), (3, .int (nI v))]) hx hb dM_before_28 hl (by decide) rfl (fun ls hl => ?_)
          refine lv_iload_n hx hb dM_before_30 rfl (lv_at hl 3 rfl) ?_
          refine lv_istore (lv' := [(5, .int (nI u)), (4, .int (bI none)), (0, .ref (ad 34)), (1, .int (nI y)), (2, .int (nI u)), (3, .int (nI v))]) hx hb dM_before_31 hl (by decide) rfl (fun ls hl => ?_)
          obtain ⟨k, hk0⟩ : ∃ z : Nat, (u) = z := ⟨_, rfl⟩
          obtain ⟨o, ho0⟩ : ∃ z : Option Nat, (none) = z := ⟨_, rfl⟩
          replace hl : lv_has ls 6 [(5, .int (nI k)), (4, .int (bI o)), (0, .ref (ad 34)), (1, .int (nI y)), (2, .int (nI u)), (3, .int (nI v))] := by subst hk0 ho0; exact lv_sub hl [0, 1, 2, 3, 4, 5] rfl
          have J : u ≤ k ∧ k ≤ v ∧ BM f y u k o := by subst hk0 ho0; exact ⟨Nat.le_refl u, huv, BM.z⟩
          clear hk0
          clear ho0
          obtain ⟨k9, hk9⟩ : ∃ z9 : Nat, z9 = v - k := ⟨_, rfl⟩
          induction k9 using Nat.strongRecOn generalizing k o ls with
          | ind k9 ih =>
            obtain ⟨j1, j2, j3⟩ := J
            refine lv_iload hx hb dM_before_33 (lv_at hl 0 rfl) ?_
            refine lv_iload_n hx hb dM_before_35 rfl (lv_at hl 5 rfl) ?_
            refine lv_icmp_ge (tgt := 77) hx hb dM_before_36 (by decide) (fun c36 => ?_) (fun c36 => ?_)
            · skip
              have d2 := leN c36
              have hkv : k = v := by omega
              refine lv_iload hx hb dM_before_77 (lv_at hl 1 rfl) ?_
              exact W.iret (v := (bI o)) hx hb hr (fun t ht hW => ⟨⟨(bI o), ce1, rfl, ⟨(fun j g0 => fr6 j g0), Or.inl ⟨y, u, v, by omega, huv, hv, rfl, rfl, rfl, ⟨o, rfl, by rw [← hkv]; exact j3⟩, nz⟩⟩, by rw [ht]; exact hP, va_K.moved hW.alike hK, hD⟩, hS.F ht⟩) hS.2.2 dM_before_79
            · skip
              have d2 := nleN c36
              have hfk := hf k (by omega)
              refine lv_aload_n hx hb dM_before_39 rfl (lv_at hl 2 rfl) ?_
              refine va_get (D := D) (ci := 3) (v := .ref (ad 36)) (C := RM) (T := TM) (N := 9) hx hb hA9 inM hown hK hP 34 (wx_at (by omega) nz) rfl 2 (by decide) (hA9 _ mfM_17) (fun _ h9 => h9) rfl dM_before_40 ?_
              refine lv_iload hx hb dM_before_43 (lv_at hl 0 rfl) ?_
              refine va_iald hx hb hK hP 36 0 (wx_at (by omega) q5) rfl (inN) dM_before_45 ?_
              refine lv_topi (fun z7 ez7 => ?_)
              obtain rfl : z7 = nI (f k) := by rw [ez7, clN]; exact hmt k (by omega)
              refine lv_iload_n hx hb dM_before_46 rfl (lv_at hl 3 rfl) ?_
              refine lv_icmp_gt (tgt := 71) hx hb dM_before_47 (by decide) (fun c47 => ?_) (fun c47 => ?_)
              · skip
                have b1 := ltN c47
                have jn := j3.skip (Or.inl b1)
                refine lv_iinc (v := nI (k + 1)) (lv' := [(5, .int (nI (k + 1))), (4, .int (bI o)), (0, .ref (ad 34)), (1, .int (nI y)), (2, .int (nI u)), (3, .int (nI v))]) hx hb dM_before_71 hl (k := 0) rfl (nI_1 k) (by decide) rfl (fun ls hl => ?_)
                refine lv_goto (tgt := 33) hx hb dM_before_74 (by decide) ?_
                exact ih _ (by omega) (ls := ls) (k := k + 1) (o := o) (lv_sub hl [0, 1, 2, 3, 4, 5] rfl) (⟨by omega, by omega, jn⟩) rfl
              · skip
                refine lv_aload_n hx hb dM_before_50 rfl (lv_at hl 2 rfl) ?_
                refine va_get (D := D) (ci := 3) (v := .ref (ad 36)) (C := RM) (T := TM) (N := 9) hx hb hA9 inM hown hK hP 34 (wx_at (by omega) nz) rfl 2 (by decide) (hA9 _ mfM_17) (fun _ h9 => h9) rfl dM_before_51 ?_
                refine lv_iload hx hb dM_before_54 (lv_at hl 0 rfl) ?_
                refine va_iald hx hb hK hP 36 0 (wx_at (by omega) q5) rfl (inN) dM_before_56 ?_
                refine lv_topi (fun z8 ez8 => ?_)
                obtain rfl : z8 = nI (f k) := by rw [ez8, clN]; exact hmt k (by omega)
                refine lv_iload hx hb dM_before_57 (lv_at hl 1 rfl) ?_
                refine lv_icmp_le (tgt := 71) hx hb dM_before_59 (by decide) (fun c59 => ?_) (fun c59 => ?_)
                · skip
                  have jn : BM f y u (k + 1) o := j3.skip (Or.inr (by
                    cases o with
                    | none => exact absurd c59 (m1_lt (by omega))
                    | some w => exact ⟨w, rfl, leN (a := f k) (b := w) c59 (by omega) (by have := j3.2.1; omega)⟩))
                  refine lv_iinc (v := nI (k + 1)) (lv' := [(5, .int (nI (k + 1))), (4, .int (bI o)), (0, .ref (ad 34)), (1, .int (nI y)), (2, .int (nI u)), (3, .int (nI v))]) hx hb dM_before_71 hl (k := 0) rfl (nI_1 k) (by decide) rfl (fun ls hl => ?_)
                  refine lv_goto (tgt := 33) hx hb dM_before_74 (by decide) ?_
                  exact ih _ (by omega) (ls := ls) (k := k + 1) (o := o) (lv_sub hl [0, 1, 2, 3, 4, 5] rfl) (⟨by omega, by omega, jn⟩) rfl
                · skip
                  have jn : BM f y u (k + 1) (some (f k)) := j3.take j1 (nltN c47) (fun w hw => by
                    subst hw
                    exact nleN (a := f k) (b := w) c59 (by omega) (by have := j3.2.1; omega))
                  refine lv_aload_n hx hb dM_before_62 rfl (lv_at hl 2 rfl) ?_
                  refine va_get (D := D) (ci := 3) (v := .ref (ad 36)) (C := RM) (T := TM) (N := 9) hx hb hA9 inM hown hK hP 34 (wx_at (by omega) nz) rfl 2 (by decide) (hA9 _ mfM_17) (fun _ h9 => h9) rfl dM_before_63 ?_
                  refine lv_iload hx hb dM_before_66 (lv_at hl 0 rfl) ?_
                  refine va_iald hx hb hK hP 36 0 (wx_at (by omega) q5) rfl (inN) dM_before_68 ?_
                  refine lv_topi (fun z9 ez9 => ?_)
                  obtain rfl : z9 = bI (some (f k)) := by rw [ez9, clN]; exact hmt k (by omega)
                  refine lv_istore (lv' := [(4, .int (bI (some (f k)))), (5, .int (nI k)), (0, .ref (ad 34)), (1, .int (nI y)), (2, .int (nI u)), (3, .int (nI v))]) hx hb dM_before_69 hl (by decide) rfl (fun ls hl => ?_)
                  refine lv_iinc (v := nI (k + 1)) (lv' := [(5, .int (nI (k + 1))), (4, .int (bI (some (f k)))), (0, .ref (ad 34)), (1, .int (nI y)), (2, .int (nI u)), (3, .int (nI v))]) hx hb dM_before_71 hl (k := 1) rfl (nI_1 k) (by decide) rfl (fun ls hl => ?_)
                  refine lv_goto (tgt := 33) hx hb dM_before_74 (by decide) ?_
                  exact ih _ (by omega) (ls := ls) (k := k + 1) (o := some (f k)) (lv_sub hl [0, 1, 2, 3, 4, 5] rfl) (⟨by omega, by omega, jn⟩) rfl
        · skip
          exact absurd (show nI (bN false) = 0 from nI_0) c22
      · skip
        have q10 : ce1 36 = .inl (cI, 4000, .inl mt) := (nf 36 (by omega)).trans h2
        have fr11 : ∀ j, j ≠ 34 → ce1 j = ce j := fun j g0 => (nf j g0)
        have no : ¬ QA 512 x a b bu := fun h => np ⟨qa_p h, rfl⟩
        refine lv_if_eq (tgt := 27) hx hb dM_before_22 (by decide) (fun c22 => ?_) (fun c22 => ?_)
        · skip
          exact absurd c22 (by decide +kernel)
        · skip
          refine lv_iconst (v := nI 0) hx hb dM_before_25 (by decide +kernel) ?_
          exact W.iret (v := (nI 0)) hx hb hr (fun t ht hW => ⟨⟨(nI 0), ce1, rfl, ⟨(fun j g0 => fr11 j g0), Or.inr ⟨no, rfl, nz⟩⟩, by rw [ht]; exact hP, va_K.moved hW.alike hK, hD⟩, hS.F ht⟩) hS.2.2 dM_before_26
    · skip
      refine lv_iconst (v := nI (bN true)) hx hb dM_before_14 (by decide +kernel) ?_
      refine lv_goto (tgt := 19) hx hb dM_before_15 (by decide) ?_
      refine cvi (va_runV (As := [.int (a), .int (b), .int (nI (bN true))]) (rest := []) ⟨hx, hb, hml, hown, hA9⟩ (c_M_noPart l D cI cO cJ N ad ce H.size hN (th) rs bu tl h0 hbu (a) (b) true) (cwV 3 hA9 (gV mlM_42 miM_noPart msM_noPart mn_M mkM_noPart) rfl rfl rfl (by decide +kernel) ⟨Nat.le_of_ble_eq_true rfl, Nat.le_of_ble_eq_true rfl⟩) ⟨PM_bl, wx_recv hK hP (by omega) h0 rfl, PM_mk hK hP hD⟩ rfl rfl hl.1 rfl (lv_room (Nat.le_of_ble_eq_true rfl)) dM_before_19 ⟨Nat.le_of_ble_eq_true rfl, Nat.le_of_ble_eq_true rfl⟩) hS hD hA (fun r12 ce1 H locs hpost hP hD hS => ?_)
      obtain ⟨nf, ⟨pa, hm, rfl, nz⟩ | ⟨np, rfl, nz⟩⟩ := hpost
      · skip
        exact absurd hm (by decide)
      · skip
        have q13 : ce1 36 = .inl (cI, 4000, .inl mt) := (nf 36 (by omega)).trans h2
        have fr14 : ∀ j, j ≠ 34 → ce1 j = ce j := fun j g0 => (nf j g0)
        have no : ¬ QA 512 x a b bu := qa_2 (g := 511) rfl (by omega) (nle_lt c11)
        refine lv_if_eq (tgt := 27) hx hb dM_before_22 (by decide) (fun c22 => ?_) (fun c22 => ?_)
        · skip
          exact absurd c22 (by decide +kernel)
        · skip
          refine lv_iconst (v := nI 0) hx hb dM_before_25 (by decide +kernel) ?_
          exact W.iret (v := (nI 0)) hx hb hr (fun t ht hW => ⟨⟨(nI 0), ce1, rfl, ⟨(fun j g0 => fr14 j g0), Or.inr ⟨no, rfl, nz⟩⟩, by rw [ht]; exact hP, va_K.moved hW.alike hK, hD⟩, hS.F ht⟩) hS.2.2 dM_before_26
