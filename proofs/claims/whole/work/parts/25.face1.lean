set_option maxHeartbeats 4000000 in
set_option maxRecDepth 100000 in
theorem c_L_count (l : Launch) (D : va_G) (cI cO cJ : ClassId) (N : Nat) (ad : Nat → Nat) (ce : Nat → va_E) (hN : 34 ≤ N) (os : Nat → Nat → Nat) (n : Nat) (hT : TR cI cO ad ce os n) (rl gc : Nat) (h0 : ce 0 = .inr (2, [.ref (ad 1), .ref (ad 2), .ref (ad 33), .int (nI rl), .int (nI gc)])) (x : Int32) : Met l yL_count (.code yL_count bL_count 2 (some .int) :: WA) ({ frames := 1, cells := 0, slots := 0, locals := 20 }) (PR D (TY cI cO cJ) N ad ce [.ref (ad 0), .int (x)]) (vp_Si (fun r => r = (if x = 0 then nI rl else if x = 1 then nI n else -1))) 0 0 (fun _ => False) := by
  refine Met.ofW (cc := bL_count) (maxL := 2) (ret := (some .int)) (by decide) rfl ?_
  intro p e s m args below meth c s₁ B hml hv
  obtain ⟨rfl, hP, hK⟩ := hv
  have hx := B.exec
  have hb := B.bytes
  have hr := B.returns
  have hA9 : ∀ w ∈ WA, w.before _ s = true := fun w h => atoms_spec (ws := .code yL_count bL_count 2 (some .int) :: WA) B.pre w (List.mem_cons_of_mem _ h)
  have hown : s.vm.findClass RL = some m.cls := findClass_of_methodNamed B.named
  have hlocks := B.notSynchronized
  have hl := lv_entry ([.ref (ad 0), .int (x)]) (n := 2) (Nat.le_of_ble_eq_true rfl)
  rw [lg_entry_eq]
  generalize (lg_sl ([.ref (ad 0), .int (x)]) ++ List.replicate (2 - (lg_sl ([.ref (ad 0), .int (x)])).length) Slot.unset).toArray = ls at hl ⊢
  have hl : lv_has ls 2 [(0, .ref (ad 0)), (1, .int (x))] := hl
  refine lv_iload_n hx hb dL_count_0 rfl (lv_at hl 1 rfl) ?_
  refine lv_if_ne (tgt := 9) hx hb dL_count_1 (by decide) (fun c1 => ?_) (fun c1 => ?_)
  · skip
    refine lv_iload_n hx hb dL_count_9 rfl (lv_at hl 1 rfl) ?_
    refine lv_iconst (v := 1) hx hb dL_count_10 (by decide +kernel) ?_
    refine lv_icmp_ne (tgt := 24) hx hb dL_count_11 (by decide) (fun c11 => ?_) (fun c11 => ?_)
    · skip
      refine lv_iconst (v := (-1)) hx hb dL_count_24 (by decide +kernel) ?_
      exact W.iret (v := ((-1))) hx hb hr (fun t ht hW => ⟨((-1)), rfl, by rw [if_neg c1, if_neg c11], ht⟩) (fun q h => nomatch h) dL_count_25
    · skip
      refine lv_aload_n hx hb dL_count_14 rfl (lv_at hl 0 rfl) ?_
      refine va_get (D := D) (ci := 2) (v := .ref (ad 2)) (C := RL) (T := TL) (N := 5) hx hb hA9 inL hown hK hP 0 (wx_at (by omega) h0) rfl 1 (by decide) (hA9 _ mfL_16) (fun _ h9 => h9) rfl dL_count_15 ?_
      refine vp_callSi (va_runV (As := []) (rest := []) ⟨hx, hb, hml, hown, hA9⟩ (c_T_size l D cI cO cJ N ad ce (by omega) os n hT) (cwV 0 hA9 (gV mlL_46 miT_size msT_size mn_T mkT_size) rfl rfl rfl (by decide +kernel) ⟨Nat.le_of_ble_eq_true rfl, Nat.le_of_ble_eq_true rfl⟩) ⟨PR_bl, wx_recv hK hP (by omega) hT.1 rfl, PR_mk hK hP⟩ rfl rfl hl.1 rfl (lv_room (Nat.le_of_ble_eq_true rfl)) dL_count_18 ⟨Nat.le_of_ble_eq_true rfl, Nat.le_of_ble_eq_true rfl⟩).run (fun r1 hr1 => ?_)
      obtain rfl : r1 = nI n := hr1
      refine lv_goto (tgt := 25) hx hb dL_count_21 (by decide) ?_
      exact W.iret (v := (nI n)) hx hb hr (fun t ht hW => ⟨(nI n), rfl, by rw [if_neg c1, if_pos c11], ht⟩) (fun q h => nomatch h) dL_count_25
  · skip
    refine lv_aload_n hx hb dL_count_4 rfl (lv_at hl 0 rfl) ?_
    refine va_get (D := D) (ci := 2) (v := .int (nI rl)) (C := RL) (T := TL) (N := 5) hx hb hA9 inL hown hK hP 0 (wx_at (by omega) h0) rfl 3 (by decide) (hA9 _ mfL_23) (fun _ h9 => h9) rfl dL_count_5 ?_
    exact W.iret (v := (nI rl)) hx hb hr (fun t ht hW => ⟨(nI rl), rfl, by rw [if_pos c1], ht⟩) (fun q h => nomatch h) dL_count_8

set_option maxHeartbeats 4000000 in
set_option maxRecDepth 100000 in
theorem c_L_add (l : Launch) (D : va_G) (cI cO cJ : ClassId) (N : Nat) (ad : Nat → Nat) (ce : Nat → va_E) (sz : Nat) (hN : 34 ≤ N) (rl gc : Nat) (h0 : ce 0 = .inr (2, [.ref (ad 1), .ref (ad 2), .ref (ad 33), .int (nI rl), .int (nI gc)])) (row : Nat → Int32) (h1 : ce 1 = .inl (cI, 4000, .inl row)) (hrl : rl ≤ 3997) (a1 a2 a3 : Int32) : Met l yL_add (.code yL_add bL_add 4 (some .int) :: WA) ({ frames := 0, cells := 0, slots := 0, locals := 0 }) (PM D (TY cI cO cJ) N ad ce sz [.ref (ad 0), .int (a1), .int (a2), .int (a3)]) (va_Qi (fun (r : Int32) (ce1 : Nat → va_E) => r = nI (rl + 3) ∧ (∀ j, j ≠ 0 → j ≠ 1 → ce1 j = ce j) ∧ ce1 0 = .inr (2, [.ref (ad 1), .ref (ad 2), .ref (ad 33), .int (nI (rl + 3)), .int (nI gc)]) ∧ ce1 1 = .inl (cI, 4000, .inl (upd (upd (upd row rl (nI (m9 a1))) (rl + 1) (nI (m9 a2))) (rl + 2) (nI (m9 a3))))) (BW D (TY cI cO cJ) N ad (AW N ad sz)) (AW N ad sz)) 0 0 (AW N ad sz) := by
  refine Met.ofW (cc := bL_add) (maxL := 4) (ret := (some .int)) (by decide) rfl ?_
  intro p e s m args below meth c s₁ B hml hv
  obtain ⟨rfl, hsz, hP, hK, hD0⟩ := hv
  have hx := B.exec
  have hb := B.bytes
  have hr := B.returns
  have hA9 : ∀ w ∈ WA, w.before _ s = true := fun w h => atoms_spec (ws := .code yL_add bL_add 4 (some .int) :: WA) B.pre w (List.mem_cons_of_mem _ h)
  have hown : s.vm.findClass RL = some m.cls := findClass_of_methodNamed B.named
  have hlocks := B.notSynchronized
  subst hsz
  have hD := aw_D (sz := s.heap.size) hD0
  generalize hAe : AW N ad s.heap.size = A at hD ⊢
  have hA : ∀ q, s.heap.size ≤ q → A q := fun q h => by rw [← hAe]; exact Or.inr h
  clear hAe hD0
  have hl := lv_entry ([.ref (ad 0), .int (a1), .int (a2), .int (a3)]) (n := 4) (Nat.le_of_ble_eq_true rfl)
  rw [lg_entry_eq]
  generalize (lg_sl ([.ref (ad 0), .int (a1), .int (a2), .int (a3)]) ++ List.replicate (4 - (lg_sl ([.ref (ad 0), .int (a1), .int (a2), .int (a3)])).length) Slot.unset).toArray = ls at hl ⊢
  have hl : lv_has ls 4 [(0, .ref (ad 0)), (1, .int (a1)), (2, .int (a2)), (3, .int (a3))] := hl
  refine st0 (A := A) (fun H locs hS hH => ?_)
  rw [← hH] at hP
  clear hH
  refine lv_aload_n hx hb dL_add_0 rfl (lv_at hl 0 rfl) ?_
  refine va_get (D := D) (ci := 2) (v := .int (nI rl)) (C := RL) (T := TL) (N := 5) hx hb hA9 inL hown hK hP 0 (wx_at (by omega) h0) rfl 3 (by decide) (hA9 _ mfL_23) (fun _ h9 => h9) rfl dL_add_1 ?_
  refine lv_sipush (v := nI 3997) hx hb dL_add_4 (by decide +kernel) ?_
  refine lv_icmp_le (tgt := 20) hx hb dL_add_7 (by decide) (fun c7 => ?_) (fun c7 => ?_)
  · skip
    refine lv_aload_n hx hb dL_add_20 rfl (lv_at hl 0 rfl) ?_
    refine va_get (D := D) (ci := 2) (v := .ref (ad 1)) (C := RL) (T := TL) (N := 5) hx hb hA9 inL hown hK hP 0 (wx_at (by omega) h0) rfl 0 (by decide) (hA9 _ mfL_9) (fun _ h9 => h9) rfl dL_add_21 ?_
    refine lv_aload_n hx hb dL_add_24 rfl (lv_at hl 0 rfl) ?_
    refine va_get (D := D) (ci := 2) (v := .int (nI rl)) (C := RL) (T := TL) (N := 5) hx hb hA9 inL hown hK hP 0 (wx_at (by omega) h0) rfl 3 (by decide) (hA9 _ mfL_23) (fun _ h9 => h9) rfl dL_add_25 ?_
    refine lv_iload_n hx hb dL_add_28 rfl (lv_at hl 1 rfl) ?_
    refine lv_sipush (v := nI 511) hx hb dL_add_29 (by decide +kernel) ?_
    refine lv_iand hx hb dL_add_32 ?_
    refine lv_topi (fun z1 ez1 => ?_)
    obtain rfl : z1 = nI (m9 a1) := by rw [ez1]; exact and511 _
    refine va_iast hx hb hK hP hD hS 1 0 (wx_at (by omega) h1) rfl (inN) dL_add_33 (fun H locs hP hD hS => ?_)
    rw [clN (a := rl)] at hP hD
    obtain ⟨ce1, hce1⟩ : ∃ z9, z9 = va_up ce 1 (.inl (cI, 4000, .inl (upd row rl (nI (m9 a1))))) := ⟨_, rfl⟩
    rw [wx_set (by omega), ← hce1] at hP hD
    have q2 : ce1 0 = .inr (2, [.ref (ad 1), .ref (ad 2), .ref (ad 33), .int (nI rl), .int (nI gc)]) := by rw [hce1, va_up_ne _ _ (by omega)]; exact h0
    have q3 : ce1 1 = .inl (cI, 4000, .inl (upd row rl (nI (m9 a1)))) := by rw [hce1, va_up_self]
    have fr4 : ∀ j, j ≠ 1 → ce1 j = ce j := fun j h0 => by rw [hce1, va_up_ne _ _ h0]
    refine lv_aload_n hx hb dL_add_34 rfl (lv_at hl 0 rfl) ?_
    refine va_get (D := D) (ci := 2) (v := .ref (ad 1)) (C := RL) (T := TL) (N := 5) hx hb hA9 inL hown hK hP 0 (wx_at (by omega) q2) rfl 0 (by decide) (hA9 _ mfL_9) (fun _ h9 => h9) rfl dL_add_35 ?_
    refine lv_aload_n hx hb dL_add_38 rfl (lv_at hl 0 rfl) ?_
    refine va_get (D := D) (ci := 2) (v := .int (nI rl)) (C := RL) (T := TL) (N := 5) hx hb hA9 inL hown hK hP 0 (wx_at (by omega) q2) rfl 3 (by decide) (hA9 _ mfL_23) (fun _ h9 => h9) rfl dL_add_39 ?_
    refine lv_iconst (v := nI 1) hx hb dL_add_42 (by decide +kernel) ?_
    refine lv_iadd hx hb dL_add_43 ?_
    refine lv_topi (fun z5 ez5 => ?_)
    obtain rfl : z5 = nI (rl + 1) := by rw [ez5]; exact nI_add _ _
    refine lv_iload_n hx hb dL_add_44 rfl (lv_at hl 2 rfl) ?_
    refine lv_sipush (v := nI 511) hx hb dL_add_45 (by decide +kernel) ?_
    refine lv_iand hx hb dL_add_48 ?_
    refine lv_topi (fun z6 ez6 => ?_)
    obtain rfl : z6 = nI (m9 a2) := by rw [ez6]; exact and511 _
    refine va_iast hx hb hK hP hD hS 1 0 (wx_at (by omega) q3) rfl (inN) dL_add_49 (fun H locs hP hD hS => ?_)
    rw [clN (a := (rl + 1))] at hP hD
    obtain ⟨ce2, hce2⟩ : ∃ z9, z9 = va_up ce1 1 (.inl (cI, 4000, .inl (upd (upd row rl (nI (m9 a1))) (rl + 1) (nI (m9 a2))))) := ⟨_, rfl⟩
    rw [wx_set (by omega), ← hce2] at hP hD
    have q7 : ce2 0 = .inr (2, [.ref (ad 1), .ref (ad 2), .ref (ad 33), .int (nI rl), .int (nI gc)]) := by rw [hce2, va_up_ne _ _ (by omega)]; exact q2
    have q8 : ce2 1 = .inl (cI, 4000, .inl (upd (upd row rl (nI (m9 a1))) (rl + 1) (nI (m9 a2)))) := by rw [hce2, va_up_self]
    have fr9 : ∀ j, j ≠ 1 → ce2 j = ce j := fun j h0 => by rw [hce2, va_up_ne _ _ h0]; exact fr4 j h0
    refine lv_aload_n hx hb dL_add_50 rfl (lv_at hl 0 rfl) ?_
    refine va_get (D := D) (ci := 2) (v := .ref (ad 1)) (C := RL) (T := TL) (N := 5) hx hb hA9 inL hown hK hP 0 (wx_at (by omega) q7) rfl 0 (by decide) (hA9 _ mfL_9) (fun _ h9 => h9) rfl dL_add_51 ?_
    refine lv_aload_n hx hb dL_add_54 rfl (lv_at hl 0 rfl) ?_
    refine va_get (D := D) (ci := 2) (v := .int (nI rl)) (C := RL) (T := TL) (N := 5) hx hb hA9 inL hown hK hP 0 (wx_at (by omega) q7) rfl 3 (by decide) (hA9 _ mfL_23) (fun _ h9 => h9) rfl dL_add_55 ?_
    refine lv_iconst (v := nI 2) hx hb dL_add_58 (by decide +kernel) ?_
    refine lv_iadd hx hb dL_add_59 ?_
    refine lv_topi (fun z10 ez10 => ?_)
    obtain rfl : z10 = nI (rl + 2) := by rw [ez10]; exact nI_add _ _
    refine lv_iload_n hx hb dL_add_60 rfl (lv_at hl 3 rfl) ?_
    refine lv_sipush (v := nI 511) hx hb dL_add_61 (by decide +kernel) ?_
    refine lv_iand hx hb dL_add_64 ?_
    refine lv_topi (fun z11 ez11 => ?_)
    obtain rfl : z11 = nI (m9 a3) := by rw [ez11]; exact and511 _
    refine va_iast hx hb hK hP hD hS 1 0 (wx_at (by omega) q8) rfl (inN) dL_add_65 (fun H locs hP hD hS => ?_)
    rw [clN (a := (rl + 2))] at hP hD
    obtain ⟨ce3, hce3⟩ : ∃ z9, z9 = va_up ce2 1 (.inl (cI, 4000, .inl (upd (upd (upd row rl (nI (m9 a1))) (rl + 1) (nI (m9 a2))) (rl + 2) (nI (m9 a3))))) := ⟨_, rfl⟩
    rw [wx_set (by omega), ← hce3] at hP hD
    have q12 : ce3 0 = .inr (2, [.ref (ad 1), .ref (ad 2), .ref (ad 33), .int (nI rl), .int (nI gc)]) := by rw [hce3, va_up_ne _ _ (by omega)]; exact q7
    have q13 : ce3 1 = .inl (cI, 4000, .inl (upd (upd (upd row rl (nI (m9 a1))) (rl + 1) (nI (m9 a2))) (rl + 2) (nI (m9 a3)))) := by rw [hce3, va_up_self]
    have fr14 : ∀ j, j ≠ 1 → ce3 j = ce j := fun j h0 => by rw [hce3, va_up_ne _ _ h0]; exact fr9 j h0
    refine lv_aload_n hx hb dL_add_66 rfl (lv_at hl 0 rfl) ?_
    refine lv_dup hx hb dL_add_67 rfl ?_
    refine va_get (D := D) (ci := 2) (v := .int (nI rl)) (C := RL) (T := TL) (N := 5) hx hb hA9 inL hown hK hP 0 (wx_at (by omega) q12) rfl 3 (by decide) (hA9 _ mfL_23) (fun _ h9 => h9) rfl dL_add_68 ?_
    refine lv_iconst (v := nI 3) hx hb dL_add_71 (by decide +kernel) ?_
    refine lv_iadd hx hb dL_add_72 ?_
    refine lv_topi (fun z15 ez15 => ?_)
    obtain rfl : z15 = nI (rl + 3) := by rw [ez15]; exact nI_add _ _
    refine va_put (D := D) (ci := 2) (v := .int (nI (rl + 3))) (ty := .int) (C := RL) (T := TL) (N := 5) hx hb hA9 inL tyL tyL_ok nmL hown hK hP hD hS 0 (wx_at (by omega) q12) rfl 3 (by decide) (hA9 _ mfL_23) (fun _ h9 => h9) rfl (by decide +kernel) rfl rfl (Nat.le_of_ble_eq_true rfl) dL_add_73 (fun H locs hP hD hS => ?_)
    replace hP : va_P D CLS ((wx N ad ce3).set 0 (ad 0, .inr (2, [.ref (ad 1), .ref (ad 2), .ref (ad 33), .int (nI (rl + 3)), .int (nI gc)]))) H := hP
    replace hD : va_D A ((wx N ad ce3).set 0 (ad 0, .inr (2, [.ref (ad 1), .ref (ad 2), .ref (ad 33), .int (nI (rl + 3)), .int (nI gc)]))) := hD
    obtain ⟨ce4, hce4⟩ : ∃ z9, z9 = va_up ce3 0 (.inr (2, [.ref (ad 1), .ref (ad 2), .ref (ad 33), .int (nI (rl + 3)), .int (nI gc)])) := ⟨_, rfl⟩
    rw [wx_set (by omega), ← hce4] at hP hD
    have q16 : ce4 1 = .inl (cI, 4000, .inl (upd (upd (upd row rl (nI (m9 a1))) (rl + 1) (nI (m9 a2))) (rl + 2) (nI (m9 a3)))) := by rw [hce4, va_up_ne _ _ (by omega)]; exact q13
    have q17 : ce4 0 = .inr (2, [.ref (ad 1), .ref (ad 2), .ref (ad 33), .int (nI (rl + 3)), .int (nI gc)]) := by rw [hce4, va_up_self]
    have fr18 : ∀ j, j ≠ 1 → j ≠ 0 → ce4 j = ce j := fun j h0 h1 => by rw [hce4, va_up_ne _ _ h1]; exact fr14 j h0
    refine lv_aload_n hx hb dL_add_76 rfl (lv_at hl 0 rfl) ?_
    refine va_get (D := D) (ci := 2) (v := .int (nI (rl + 3))) (C := RL) (T := TL) (N := 5) hx hb hA9 inL hown hK hP 0 (wx_at (by omega) q17) rfl 3 (by decide) (hA9 _ mfL_23) (fun _ h9 => h9) rfl dL_add_77 ?_
    exact W.iret (v := (nI (rl + 3))) hx hb hr (fun t ht hW => ⟨⟨(nI (rl + 3)), ce4, rfl, ⟨rfl, (fun j g0 g1 => fr18 j g1 g0), q17, q16⟩, by rw [ht]; exact hP, va_K.moved hW.alike hK, hD⟩, hS.F ht⟩) hS.2.2 dL_add_80
  · skip
    exact absurd (nI_le hrl (by omega)) c7

set_option maxHeartbeats 4000000 in
set_option maxRecDepth 100000 in
theorem c_L_checkNumber (l : Launch) (hlt : l.stackTraces = false) (D : va_G) (cI cO cJ : ClassId) (N : Nat) (ad : Nat → Nat) (ce : Nat → va_E) (sz : Nat) (x : Int32) (g : Nat) (hg : g ≤ 512) : vx_Met l yL_checkNumber (.code yL_checkNumber bL_checkNumber 2 none :: WA) ({ frames := 6, cells := 1, slots := 6, locals := 90 }) (PX D (TY cI cO cJ) N ad ce sz [.int (x), .int (nI g)]) (va_Qv (fun _ : Unit => (∃ y, y ≤ g ∧ x = nI y)) (fun _ _ => True) (fun _ => False)) (XK (fun E => E = eI ∧ ¬ (∃ y, y ≤ g ∧ x = nI y))) 1 6 (AW N ad sz) := by
  refine vx_ofW (cc := bL_checkNumber) (maxL := 2) (ret := none) (by decide) rfl ?_
  intro p e s m args below meth c s₁ B hml htab hv
  obtain ⟨rfl, hsz, hP, hK, hD0, hE⟩ := hv
  have hx := B.exec
  have hb := B.bytes
  have hr := B.returns
  have hA9 : ∀ w ∈ WA, w.before _ s = true := fun w h => atoms_spec (ws := .code yL_checkNumber bL_checkNumber 2 none :: WA) B.pre w (List.mem_cons_of_mem _ h)
  have hown : s.vm.findClass RL = some m.cls := findClass_of_methodNamed B.named
  have hlocks := B.notSynchronized
  subst hsz
  have hD := aw_D (sz := s.heap.size) hD0
  generalize hAe : AW N ad s.heap.size = A at hD hE ⊢
  have hA : ∀ q, s.heap.size ≤ q → A q := fun q h => by rw [← hAe]; exact Or.inr h
  clear hAe hD0
  obtain ⟨-, -, ⟨g39, s39⟩, ⟨g52, s52⟩, ⟨g92, s92⟩, ⟨g94, s94⟩, ⟨g70, s70⟩, ⟨g76, s76⟩, ⟨g90, s90⟩, -⟩ := id hE
  have hl := lv_entry ([.int (x), .int (nI g)]) (n := 2) (Nat.le_of_ble_eq_true rfl)
  rw [lg_entry_eq]
  generalize (lg_sl ([.int (x), .int (nI g)]) ++ List.replicate (2 - (lg_sl ([.int (x), .int (nI g)])).length) Slot.unset).toArray = ls at hl ⊢
  have hl : lv_has ls 2 [(0, .int (x)), (1, .int (nI g))] := hl
  refine st0 (A := A) (fun H locs hS hH => ?_)
  have hU : ∀ q : Nat, q < s.heap.size → H[q]? = s.heap[q]? := fun q _ => by rw [hH]
  rw [← hH] at hP
  clear hH
  refine lv_iload_n hx hb dL_checkNumber_0 rfl (lv_at hl 0 rfl) ?_
  refine lv_if_lt (tgt := 9) hx hb dL_checkNumber_1 (by decide) (fun c1 => ?_) (fun c1 => ?_)
  · skip
    have no : ¬ (∃ y, y ≤ g ∧ x = nI y) := fun ⟨y, q1, q2⟩ => neg_n c1 q2
    exact thr (ik := 37) (ic := 41) hx hb hlt hown (by decide +kernel) (hA9 _ mcL_37) (hA9 _ mn_iae) s92 (hatI hA9 hE) hgdI hE hS hU (hl.1.trans hml.symm) dL_checkNumber_9 dL_checkNumber_12 dL_checkNumber_13 dL_checkNumber_15 dL_checkNumber_18 htab (Nat.le_of_ble_eq_true rfl) (Nat.le_of_ble_eq_true rfl) (Nat.le_of_ble_eq_true rfl) (Nat.le_of_ble_eq_true rfl) hlocks ⟨rfl, no⟩ (by decide) (by decide)
  · skip
    refine lv_iload_n hx hb dL_checkNumber_4 rfl (lv_at hl 0 rfl) ?_
    refine lv_iload_n hx hb dL_checkNumber_5 rfl (lv_at hl 1 rfl) ?_
    refine lv_icmp_le (tgt := 19) hx hb dL_checkNumber_6 (by decide) (fun c6 => ?_) (fun c6 => ?_)
    · skip
      have ok := rg_mk c1 c6
      refine W.widen (k := 1) (n := 6) (by decide) (by decide) ?_
      refine vx_ret ?_
      exact W.vret hx hb hr (fun t ht hW => ⟨⟨(), rfl, ok, trivial⟩, by rw [ht]; exact hS.1, fun q hq _ => by rw [ht]; exact hU q hq⟩) hS.2.2 dL_checkNumber_19
    · skip
      have no : ¬ (∃ y, y ≤ g ∧ x = nI y) := fun ⟨y, q1, q2⟩ => c6 (by rw [q2]; exact nI_le q1 (by omega))
      exact thr (ik := 37) (ic := 41) hx hb hlt hown (by decide +kernel) (hA9 _ mcL_37) (hA9 _ mn_iae) s92 (hatI hA9 hE) hgdI hE hS hU (hl.1.trans hml.symm) dL_checkNumber_9 dL_checkNumber_12 dL_checkNumber_13 dL_checkNumber_15 dL_checkNumber_18 htab (Nat.le_of_ble_eq_true rfl) (Nat.le_of_ble_eq_true rfl) (Nat.le_of_ble_eq_true rfl) (Nat.le_of_ble_eq_true rfl) hlocks ⟨rfl, no⟩ (by decide) (by decide)

set_option maxHeartbeats 4000000 in
set_option maxRecDepth 100000 in
theorem c_L_checkPart (l : Launch) (hlt : l.stackTraces = false) (D : va_G) (cI cO cJ : ClassId) (N : Nat) (ad : Nat → Nat) (ce : Nat → va_E) (sz : Nat) (hN : 34 ≤ N) (os : Nat → Nat → Nat) (n : Nat) (hT : TR cI cO ad ce os n) (rl gc : Nat) (h0 : ce 0 = .inr (2, [.ref (ad 1), .ref (ad 2), .ref (ad 33), .int (nI rl), .int (nI gc)])) (a b : Int32) : vx_Met l yL_checkPart (.code yL_checkPart bL_checkPart 3 none :: WA) ({ frames := 6, cells := 1, slots := 6, locals := 90 }) (PX D (TY cI cO cJ) N ad ce sz [.ref (ad 0), .int (a), .int (b)]) (va_Qv (fun _ : Unit => PA a b n) (fun _ _ => True) (fun _ => False)) (XK (fun E => E = eI ∧ ¬ PA a b n)) 1 6 (AW N ad sz) := by
  refine vx_ofW (cc := bL_checkPart) (maxL := 3) (ret := none) (by decide) rfl ?_
  intro p e s m args below meth c s₁ B hml htab hv
  obtain ⟨rfl, hsz, hP, hK, hD0, hE⟩ := hv
  have hx := B.exec
  have hb := B.bytes
  have hr := B.returns
  have hA9 : ∀ w ∈ WA, w.before _ s = true := fun w h => atoms_spec (ws := .code yL_checkPart bL_checkPart 3 none :: WA) B.pre w (List.mem_cons_of_mem _ h)
  have hown : s.vm.findClass RL = some m.cls := findClass_of_methodNamed B.named
  have hlocks := B.notSynchronized
  subst hsz
  have hD := aw_D (sz := s.heap.size) hD0
  generalize hAe : AW N ad s.heap.size = A at hD hE ⊢
  have hA : ∀ q, s.heap.size ≤ q → A q := fun q h => by rw [← hAe]; exact Or.inr h
  clear hAe hD0
  obtain ⟨-, -, ⟨g39, s39⟩, ⟨g52, s52⟩, ⟨g92, s92⟩, ⟨g94, s94⟩, ⟨g70, s70⟩, ⟨g76, s76⟩, ⟨g90, s90⟩, -⟩ := id hE
  have hl := lv_entry ([.ref (ad 0), .int (a), .int (b)]) (n := 3) (Nat.le_of_ble_eq_true rfl)
  rw [lg_entry_eq]
  generalize (lg_sl ([.ref (ad 0), .int (a), .int (b)]) ++ List.replicate (3 - (lg_sl ([.ref (ad 0), .int (a), .int (b)])).length) Slot.unset).toArray = ls at hl ⊢
  have hl : lv_has ls 3 [(0, .ref (ad 0)), (1, .int (a)), (2, .int (b))] := hl
  refine st0 (A := A) (fun H locs hS hH => ?_)
  have hU : ∀ q : Nat, q < s.heap.size → H[q]? = s.heap[q]? := fun q _ => by rw [hH]
  rw [← hH] at hP
  clear hH
  have hn := hT.2.2.2
  refine lv_iload_n hx hb dL_checkPart_0 rfl (lv_at hl 1 rfl) ?_
  refine lv_if_lt (tgt := 20) hx hb dL_checkPart_1 (by decide) (fun c1 => ?_) (fun c1 => ?_)
  · skip
    have no := pa_1 (b := b) hn c1
    exact thr (ik := 37) (ic := 41) hx hb hlt hown (by decide +kernel) (hA9 _ mcL_37) (hA9 _ mn_iae) s94 (hatI hA9 hE) hgdI hE hS hU (hl.1.trans hml.symm) dL_checkPart_20 dL_checkPart_23 dL_checkPart_24 dL_checkPart_26 dL_checkPart_29 htab (Nat.le_of_ble_eq_true rfl) (Nat.le_of_ble_eq_true rfl) (Nat.le_of_ble_eq_true rfl) (Nat.le_of_ble_eq_true rfl) hlocks ⟨rfl, no⟩ (by decide) (by decide)
  · skip
    refine lv_iload_n hx hb dL_checkPart_4 rfl (lv_at hl 1 rfl) ?_
    refine lv_iload_n hx hb dL_checkPart_5 rfl (lv_at hl 2 rfl) ?_
    refine lv_icmp_gt (tgt := 20) hx hb dL_checkPart_6 (by decide) (fun c6 => ?_) (fun c6 => ?_)
    · skip
      have no := pa_2 hn c6
      exact thr (ik := 37) (ic := 41) hx hb hlt hown (by decide +kernel) (hA9 _ mcL_37) (hA9 _ mn_iae) s94 (hatI hA9 hE) hgdI hE hS hU (hl.1.trans hml.symm) dL_checkPart_20 dL_checkPart_23 dL_checkPart_24 dL_checkPart_26 dL_checkPart_29 htab (Nat.le_of_ble_eq_true rfl) (Nat.le_of_ble_eq_true rfl) (Nat.le_of_ble_eq_true rfl) (Nat.le_of_ble_eq_true rfl) hlocks ⟨rfl, no⟩ (by decide) (by decide)
    · skip
      refine lv_iload_n hx hb dL_checkPart_9 rfl (lv_at hl 2 rfl) ?_
      refine lv_aload_n hx hb dL_checkPart_10 rfl (lv_at hl 0 rfl) ?_
      refine va_get (D := D) (ci := 2) (v := .ref (ad 2)) (C := RL) (T := TL) (N := 5) hx hb hA9 inL hown hK hP 0 (wx_at (by omega) h0) rfl 1 (by decide) (hA9 _ mfL_16) (fun _ h9 => h9) rfl dL_checkPart_11 ?_
      refine vp_callSi (va_runV (As := []) (rest := [.int (b)]) ⟨hx, hb, hml, hown, hA9⟩ (c_T_size l D cI cO cJ N ad ce (by omega) os n hT) (cwV 0 hA9 (gV mlL_46 miT_size msT_size mn_T mkT_size) rfl rfl rfl (by decide +kernel) ⟨Nat.le_of_ble_eq_true rfl, Nat.le_of_ble_eq_true rfl⟩) ⟨PR_bl, wx_recv hK hP (by omega) hT.1 rfl, PR_mk hK hP⟩ rfl rfl hl.1 rfl (lv_room (Nat.le_of_ble_eq_true rfl)) dL_checkPart_14 ⟨Nat.le_of_ble_eq_true rfl, Nat.le_of_ble_eq_true rfl⟩).run (fun r1 hr1 => ?_)
      obtain rfl : r1 = nI n := hr1
      refine lv_icmp_le (tgt := 30) hx hb dL_checkPart_17 (by decide) (fun c17 => ?_) (fun c17 => ?_)
      · skip
        have ok : PA a b n := pa_mk c1 c6 (le_nlt c17)
        refine W.widen (k := 1) (n := 6) (by decide) (by decide) ?_
        refine vx_ret ?_
        exact W.vret hx hb hr (fun t ht hW => ⟨⟨(), rfl, ok, trivial⟩, by rw [ht]; exact hS.1, fun q hq _ => by rw [ht]; exact hU q hq⟩) hS.2.2 dL_checkPart_30
      · skip
        have no := pa_3 (a := a) hn (nle_lt c17)
        exact thr (ik := 37) (ic := 41) hx hb hlt hown (by decide +kernel) (hA9 _ mcL_37) (hA9 _ mn_iae) s94 (hatI hA9 hE) hgdI hE hS hU (hl.1.trans hml.symm) dL_checkPart_20 dL_checkPart_23 dL_checkPart_24 dL_checkPart_26 dL_checkPart_29 htab (Nat.le_of_ble_eq_true rfl) (Nat.le_of_ble_eq_true rfl) (Nat.le_of_ble_eq_true rfl) (Nat.le_of_ble_eq_true rfl) hlocks ⟨rfl, no⟩ (by decide) (by decide)

set_option maxHeartbeats 4000000 in
set_option maxRecDepth 100000 in
theorem c_L_cut (l : Launch) (hlt : l.stackTraces = false) (D : va_G) (cI cO cJ : ClassId) (N : Nat) (ad : Nat → Nat) (ce : Nat → va_E) (sz : Nat) (hN : 34 ≤ N) (rl gc : Nat) (hrl : rl ≤ 4000) (h0 : ce 0 = .inr (2, [.ref (ad 1), .ref (ad 2), .ref (ad 33), .int (nI rl), .int (nI gc)])) (x : Int32) : vx_Met l yL_cut (.code yL_cut bL_cut 2 (some .int) :: WA) ({ frames := 6, cells := 1, slots := 6, locals := 90 }) (PX D (TY cI cO cJ) N ad ce sz [.ref (ad 0), .int (x)]) (va_Qi (fun (r : Int32) (ce1 : Nat → va_E) => ∃ k, k ≤ rl ∧ x = nI k ∧ r = nI k ∧ (∀ j, j ≠ 0 → ce1 j = ce j) ∧ ce1 0 = .inr (2, [.ref (ad 1), .ref (ad 2), .ref (ad 33), .int (nI k), .int (nI gc)])) (BW D (TY cI cO cJ) N ad (AW N ad sz)) (AW N ad sz)) (XK (fun E => E = eI ∧ ¬ (∃ k, k ≤ rl ∧ x = nI k))) 1 6 (AW N ad sz) := by
  refine vx_ofW (cc := bL_cut) (maxL := 2) (ret := (some .int)) (by decide) rfl ?_
  intro p e s m args below meth c s₁ B hml htab hv
  obtain ⟨rfl, hsz, hP, hK, hD0, hE⟩ := hv
  have hx := B.exec
  have hb := B.bytes
  have hr := B.returns
  have hA9 : ∀ w ∈ WA, w.before _ s = true := fun w h => atoms_spec (ws := .code yL_cut bL_cut 2 (some .int) :: WA) B.pre w (List.mem_cons_of_mem _ h)
  have hown : s.vm.findClass RL = some m.cls := findClass_of_methodNamed B.named
  have hlocks := B.notSynchronized
  subst hsz
  have hD := aw_D (sz := s.heap.size) hD0
  generalize hAe : AW N ad s.heap.size = A at hD hE ⊢
  have hA : ∀ q, s.heap.size ≤ q → A q := fun q h => by rw [← hAe]; exact Or.inr h
  clear hAe hD0
  obtain ⟨-, -, ⟨g39, s39⟩, ⟨g52, s52⟩, ⟨g92, s92⟩, ⟨g94, s94⟩, ⟨g70, s70⟩, ⟨g76, s76⟩, ⟨g90, s90⟩, -⟩ := id hE
  have hl := lv_entry ([.ref (ad 0), .int (x)]) (n := 2) (Nat.le_of_ble_eq_true rfl)
  rw [lg_entry_eq]
  generalize (lg_sl ([.ref (ad 0), .int (x)]) ++ List.replicate (2 - (lg_sl ([.ref (ad 0), .int (x)])).length) Slot.unset).toArray = ls at hl ⊢
  have hl : lv_has ls 2 [(0, .ref (ad 0)), (1, .int (x))] := hl
  refine st0 (A := A) (fun H locs hS hH => ?_)
  have hU : ∀ q : Nat, q < s.heap.size → H[q]? = s.heap[q]? := fun q _ => by rw [hH]
  rw [← hH] at hP
  clear hH
  refine lv_iload_n hx hb dL_cut_0 rfl (lv_at hl 1 rfl) ?_
  refine lv_if_lt (tgt := 12) hx hb dL_cut_1 (by decide) (fun c1 => ?_) (fun c1 => ?_)
  · skip
    have no : ¬ ∃ k, k ≤ rl ∧ x = nI k := fun ⟨k, q1, q2⟩ => neg_n c1 q2
    exact thr (ik := 37) (ic := 41) hx hb hlt hown (by decide +kernel) (hA9 _ mcL_37) (hA9 _ mn_iae) s39 (hatI hA9 hE) hgdI hE hS hU (hl.1.trans hml.symm) dL_cut_12 dL_cut_15 dL_cut_16 dL_cut_18 dL_cut_21 htab (Nat.le_of_ble_eq_true rfl) (Nat.le_of_ble_eq_true rfl) (Nat.le_of_ble_eq_true rfl) (Nat.le_of_ble_eq_true rfl) hlocks ⟨rfl, no⟩ (by decide) (by decide)
  · skip
    refine lv_iload_n hx hb dL_cut_4 rfl (lv_at hl 1 rfl) ?_
    refine lv_aload_n hx hb dL_cut_5 rfl (lv_at hl 0 rfl) ?_
    refine va_get (D := D) (ci := 2) (v := .int (nI rl)) (C := RL) (T := TL) (N := 5) hx hb hA9 inL hown hK hP 0 (wx_at (by omega) h0) rfl 3 (by decide) (hA9 _ mfL_23) (fun _ h9 => h9) rfl dL_cut_6 ?_
    refine lv_icmp_le (tgt := 22) hx hb dL_cut_9 (by decide) (fun c9 => ?_) (fun c9 => ?_)
    · skip
      obtain ⟨k, hk, rfl⟩ := rg_mk c1 c9
      refine lv_aload_n hx hb dL_cut_22 rfl (lv_at hl 0 rfl) ?_
      refine lv_iload_n hx hb dL_cut_23 rfl (lv_at hl 1 rfl) ?_
      refine va_put (D := D) (ci := 2) (v := .int (nI k)) (ty := .int) (C := RL) (T := TL) (N := 5) hx hb hA9 inL tyL tyL_ok nmL hown hK hP hD hS 0 (wx_at (by omega) h0) rfl 3 (by decide) (hA9 _ mfL_23) (fun _ h9 => h9) rfl (by decide +kernel) rfl rfl (Nat.le_of_ble_eq_true rfl) dL_cut_24 (fun H locs hP hD hS => ?_)
      replace hP : va_P D CLS ((wx N ad ce).set 0 (ad 0, .inr (2, [.ref (ad 1), .ref (ad 2), .ref (ad 33), .int (nI k), .int (nI gc)]))) H := hP
      replace hD : va_D A ((wx N ad ce).set 0 (ad 0, .inr (2, [.ref (ad 1), .ref (ad 2), .ref (ad 33), .int (nI k), .int (nI gc)]))) := hD
      obtain ⟨ce1, hce1⟩ : ∃ z9, z9 = va_up ce 0 (.inr (2, [.ref (ad 1), .ref (ad 2), .ref (ad 33), .int (nI k), .int (nI gc)])) := ⟨_, rfl⟩
      rw [wx_set (by omega), ← hce1] at hP hD
      have q1 : ce1 0 = .inr (2, [.ref (ad 1), .ref (ad 2), .ref (ad 33), .int (nI k), .int (nI gc)]) := by rw [hce1, va_up_self]
      have fr2 : ∀ j, j ≠ 0 → ce1 j = ce j := fun j h0 => by rw [hce1, va_up_ne _ _ h0]
      refine lv_iload_n hx hb dL_cut_27 rfl (lv_at hl 1 rfl) ?_
      refine W.widen (k := 1) (n := 6) (by decide) (by decide) ?_
      refine vx_ret ?_
      exact W.iret (v := (nI k)) hx hb hr (fun t ht hW => ⟨⟨(nI k), ce1, rfl, ⟨k, hk, rfl, rfl, (fun j g0 => fr2 j g0), q1⟩, by rw [ht]; exact hP, va_K.moved hW.alike hK, hD⟩, hS.F ht⟩) hS.2.2 dL_cut_28
    · skip
      have no : ¬ ∃ k, k ≤ rl ∧ x = nI k := fun ⟨k, q1, q2⟩ => c9 (by rw [q2]; exact nI_le q1 (by omega))
      exact thr (ik := 37) (ic := 41) hx hb hlt hown (by decide +kernel) (hA9 _ mcL_37) (hA9 _ mn_iae) s39 (hatI hA9 hE) hgdI hE hS hU (hl.1.trans hml.symm) dL_cut_12 dL_cut_15 dL_cut_16 dL_cut_18 dL_cut_21 htab (Nat.le_of_ble_eq_true rfl) (Nat.le_of_ble_eq_true rfl) (Nat.le_of_ble_eq_true rfl) (Nat.le_of_ble_eq_true rfl) hlocks ⟨rfl, no⟩ (by decide) (by decide)

set_option maxHeartbeats 4000000 in
set_option maxRecDepth 100000 in
theorem c_L_at (l : Launch) (hlt : l.stackTraces = false) (D : va_G) (cI cO cJ : ClassId) (N : Nat) (ad : Nat → Nat) (ce : Nat → va_E) (sz : Nat) (hN : 34 ≤ N) (os : Nat → Nat → Nat) (n : Nat) (hT : TR cI cO ad ce os n) (rl gc : Nat) (h0 : ce 0 = .inr (2, [.ref (ad 1), .ref (ad 2), .ref (ad 33), .int (nI rl), .int (nI gc)])) (f : Nat → Nat) (hW : WM f n os) (hf : ∀ i, i < n → f i < 512) (x : Int32) : vx_Met l yL_at (.code yL_at bL_at 2 (some .int) :: WA) ({ frames := 6, cells := 1, slots := 6, locals := 90 }) (PX D (TY cI cO cJ) N ad ce sz [.ref (ad 0), .int (x)]) (va_Qi (fun (r : Int32) (ce1 : Nat → va_E) => ce1 = ce ∧ ∃ k, k < n ∧ x = nI k ∧ r = nI (f k)) (BW D (TY cI cO cJ) N ad (AW N ad sz)) (AW N ad sz)) (XK (fun E => E = eN ∧ ¬ (∃ k, k < n ∧ x = nI k))) 1 6 (AW N ad sz) := by
  refine vx_ofW (cc := bL_at) (maxL := 2) (ret := (some .int)) (by decide) rfl ?_
  intro p e s m args below meth c s₁ B hml htab hv
  obtain ⟨rfl, hsz, hP, hK, hD0, hE⟩ := hv
  have hx := B.exec
  have hb := B.bytes
  have hr := B.returns
  have hA9 : ∀ w ∈ WA, w.before _ s = true := fun w h => atoms_spec (ws := .code yL_at bL_at 2 (some .int) :: WA) B.pre w (List.mem_cons_of_mem _ h)
  have hown : s.vm.findClass RL = some m.cls := findClass_of_methodNamed B.named
  have hlocks := B.notSynchronized
  subst hsz
  have hD := aw_D (sz := s.heap.size) hD0
  generalize hAe : AW N ad s.heap.size = A at hD hE ⊢
  have hA : ∀ q, s.heap.size ≤ q → A q := fun q h => by rw [← hAe]; exact Or.inr h
  clear hAe hD0
  obtain ⟨-, -, ⟨g39, s39⟩, ⟨g52, s52⟩, ⟨g92, s92⟩, ⟨g94, s94⟩, ⟨g70, s70⟩, ⟨g76, s76⟩, ⟨g90, s90⟩, -⟩ := id hE
  have hl := lv_entry ([.ref (ad 0), .int (x)]) (n := 2) (Nat.le_of_ble_eq_true rfl)
  rw [lg_entry_eq]
  generalize (lg_sl ([.ref (ad 0), .int (x)]) ++ List.replicate (2 - (lg_sl ([.ref (ad 0), .int (x)])).length) Slot.unset).toArray = ls at hl ⊢
  have hl : lv_has ls 2 [(0, .ref (ad 0)), (1, .int (x))] := hl
  refine st0 (A := A) (fun H locs hS hH => ?_)
  have hU : ∀ q : Nat, q < s.heap.size → H[q]? = s.heap[q]? := fun q _ => by rw [hH]
  rw [← hH] at hP
  clear hH
  have hn := hT.2.2.2
  refine lv_iload_n hx hb dL_at_0 rfl (lv_at hl 1 rfl) ?_
  refine lv_if_lt (tgt := 15) hx hb dL_at_1 (by decide) (fun c1 => ?_) (fun c1 => ?_)
  · skip
    have no : ¬ ∃ k, k < n ∧ x = nI k := fun ⟨k, q1, q2⟩ => neg_n c1 q2
    exact thrN hx hb hlt hown hA9 s52 hE hS hU (hl.1.trans hml.symm) dL_at_15 dL_at_18 dL_at_19 dL_at_21 dL_at_24 htab (Nat.le_of_ble_eq_true rfl) (Nat.le_of_ble_eq_true rfl) (Nat.le_of_ble_eq_true rfl) (Nat.le_of_ble_eq_true rfl) hlocks ⟨rfl, no⟩ (by decide) (by decide)
  · skip
    refine lv_iload_n hx hb dL_at_4 rfl (lv_at hl 1 rfl) ?_
    refine lv_aload_n hx hb dL_at_5 rfl (lv_at hl 0 rfl) ?_
    refine va_get (D := D) (ci := 2) (v := .ref (ad 2)) (C := RL) (T := TL) (N := 5) hx hb hA9 inL hown hK hP 0 (wx_at (by omega) h0) rfl 1 (by decide) (hA9 _ mfL_16) (fun _ h9 => h9) rfl dL_at_6 ?_
    refine vp_callSi (va_runV (As := []) (rest := [.int (x)]) ⟨hx, hb, hml, hown, hA9⟩ (c_T_size l D cI cO cJ N ad ce (by omega) os n hT) (cwV 0 hA9 (gV mlL_46 miT_size msT_size mn_T mkT_size) rfl rfl rfl (by decide +kernel) ⟨Nat.le_of_ble_eq_true rfl, Nat.le_of_ble_eq_true rfl⟩) ⟨PR_bl, wx_recv hK hP (by omega) hT.1 rfl, PR_mk hK hP⟩ rfl rfl hl.1 rfl (lv_room (Nat.le_of_ble_eq_true rfl)) dL_at_9 ⟨Nat.le_of_ble_eq_true rfl, Nat.le_of_ble_eq_true rfl⟩).run (fun r1 hr1 => ?_)
    obtain rfl : r1 = nI n := hr1
    refine lv_icmp_lt (tgt := 25) hx hb dL_at_12 (by decide) (fun c12 => ?_) (fun c12 => ?_)
    · skip
      obtain ⟨k, hk, rfl⟩ := rl_mk c1 c12
      refine lv_aload_n hx hb dL_at_25 rfl (lv_at hl 0 rfl) ?_
      refine va_get (D := D) (ci := 2) (v := .ref (ad 2)) (C := RL) (T := TL) (N := 5) hx hb hA9 inL hown hK hP 0 (wx_at (by omega) h0) rfl 1 (by decide) (hA9 _ mfL_16) (fun _ h9 => h9) rfl dL_at_26 ?_
      refine lv_iload_n hx hb dL_at_29 rfl (lv_at hl 1 rfl) ?_
      refine vp_callSi (va_runV (As := [.int (nI k)]) (rest := []) ⟨hx, hb, hml, hown, hA9⟩ (c_T_numberAt l D cI cO cJ N ad ce (by omega) os n hT f hW hf k hk) (cwV 1 hA9 (gV mlL_55 miT_numberAt msT_numberAt mn_T mkT_numberAt) rfl rfl rfl (by decide +kernel) ⟨Nat.le_of_ble_eq_true rfl, Nat.le_of_ble_eq_true rfl⟩) ⟨PR_bl, wx_recv hK hP (by omega) hT.1 rfl, PR_mk hK hP⟩ rfl rfl hl.1 rfl (lv_room (Nat.le_of_ble_eq_true rfl)) dL_at_30 ⟨Nat.le_of_ble_eq_true rfl, Nat.le_of_ble_eq_true rfl⟩).run (fun r2 hr2 => ?_)
      obtain rfl : r2 = nI (f k) := hr2
      refine W.widen (k := 1) (n := 6) (by decide) (by decide) ?_
      refine vx_ret ?_
      exact W.iret (v := (nI (f k))) hx hb hr (fun t ht hW => ⟨⟨(nI (f k)), ce, rfl, ⟨rfl, k, hk, rfl, rfl⟩, by rw [ht]; exact hP, va_K.moved hW.alike hK, hD⟩, hS.F ht⟩) hS.2.2 dL_at_33
    · skip
      have no : ¬ ∃ k, k < n ∧ x = nI k := fun ⟨k, q1, q2⟩ => c12 (by rw [q2]; exact nI_lt q1 (by omega))
      exact thrN hx hb hlt hown hA9 s52 hE hS hU (hl.1.trans hml.symm) dL_at_15 dL_at_18 dL_at_19 dL_at_21 dL_at_24 htab (Nat.le_of_ble_eq_true rfl) (Nat.le_of_ble_eq_true rfl) (Nat.le_of_ble_eq_true rfl) (Nat.le_of_ble_eq_true rfl) hlocks ⟨rfl, no⟩ (by decide) (by decide)

set_option maxHeartbeats 4000000 in
set_option maxRecDepth 100000 in
theorem c_L_number (l : Launch) (hlt : l.stackTraces = false) (D : va_G) (cI cO cJ : ClassId) (N : Nat) (ad : Nat → Nat) (ce : Nat → va_E) (sz : Nat) (hN : 34 ≤ N) (rl gc : Nat) (h0 : ce 0 = .inr (2, [.ref (ad 1), .ref (ad 2), .ref (ad 33), .int (nI rl), .int (nI gc)])) (hgc : gc ≤ 512) (gr : Nat → Int32) (h3 : ce 33 = .inl (cI, 512, .inl gr)) (x : Int32) : vx_Met l yL_number (.code yL_number bL_number 2 (some .int) :: WA) ({ frames := 6, cells := 1, slots := 6, locals := 90 }) (PX D (TY cI cO cJ) N ad ce sz [.ref (ad 0), .int (x)]) (va_Qi (fun (r : Int32) (ce1 : Nat → va_E) => ce1 = ce ∧ ∃ k, k < gc ∧ x = nI k ∧ r = gr k) (BW D (TY cI cO cJ) N ad (AW N ad sz)) (AW N ad sz)) (XK (fun E => E = eN ∧ ¬ (∃ k, k < gc ∧ x = nI k))) 1 6 (AW N ad sz) := by
  refine vx_ofW (cc := bL_number) (maxL := 2) (ret := (some .int)) (by decide) rfl ?_
  intro p e s m args below meth c s₁ B hml htab hv
  obtain ⟨rfl, hsz, hP, hK, hD0, hE⟩ := hv
  have hx := B.exec
  have hb := B.bytes
  have hr := B.returns
  have hA9 : ∀ w ∈ WA, w.before _ s = true := fun w h => atoms_spec (ws := .code yL_number bL_number 2 (some .int) :: WA) B.pre w (List.mem_cons_of_mem _ h)
  have hown : s.vm.findClass RL = some m.cls := findClass_of_methodNamed B.named
  have hlocks := B.notSynchronized
  subst hsz
  have hD := aw_D (sz := s.heap.size) hD0
  generalize hAe : AW N ad s.heap.size = A at hD hE ⊢
  have hA : ∀ q, s.heap.size ≤ q → A q := fun q h => by rw [← hAe]; exact Or.inr h
  clear hAe hD0
  obtain ⟨-, -, ⟨g39, s39⟩, ⟨g52, s52⟩, ⟨g92, s92⟩, ⟨g94, s94⟩, ⟨g70, s70⟩, ⟨g76, s76⟩, ⟨g90, s90⟩, -⟩ := id hE
  have hl := lv_entry ([.ref (ad 0), .int (x)]) (n := 2) (Nat.le_of_ble_eq_true rfl)
  rw [lg_entry_eq]
  generalize (lg_sl ([.ref (ad 0), .int (x)]) ++ List.replicate (2 - (lg_sl ([.ref (ad 0), .int (x)])).length) Slot.unset).toArray = ls at hl ⊢
  have hl : lv_has ls 2 [(0, .ref (ad 0)), (1, .int (x))] := hl
  refine st0 (A := A) (fun H locs hS hH => ?_)
  have hU : ∀ q : Nat, q < s.heap.size → H[q]? = s.heap[q]? := fun q _ => by rw [hH]
  rw [← hH] at hP
  clear hH
  refine lv_iload_n hx hb dL_number_0 rfl (lv_at hl 1 rfl) ?_
  refine lv_if_lt (tgt := 12) hx hb dL_number_1 (by decide) (fun c1 => ?_) (fun c1 => ?_)
  · skip
    have no : ¬ ∃ k, k < gc ∧ x = nI k := fun ⟨k, q1, q2⟩ => neg_n c1 q2
    exact thrN hx hb hlt hown hA9 s90 hE hS hU (hl.1.trans hml.symm) dL_number_12 dL_number_15 dL_number_16 dL_number_18 dL_number_21 htab (Nat.le_of_ble_eq_true rfl) (Nat.le_of_ble_eq_true rfl) (Nat.le_of_ble_eq_true rfl) (Nat.le_of_ble_eq_true rfl) hlocks ⟨rfl, no⟩ (by decide) (by decide)
  · skip
    refine lv_iload_n hx hb dL_number_4 rfl (lv_at hl 1 rfl) ?_
    refine lv_aload_n hx hb dL_number_5 rfl (lv_at hl 0 rfl) ?_
    refine va_get (D := D) (ci := 2) (v := .int (nI gc)) (C := RL) (T := TL) (N := 5) hx hb hA9 inL hown hK hP 0 (wx_at (by omega) h0) rfl 4 (by decide) (hA9 _ mfL_27) (fun _ h9 => h9) rfl dL_number_6 ?_
    refine lv_icmp_lt (tgt := 22) hx hb dL_number_9 (by decide) (fun c9 => ?_) (fun c9 => ?_)
    · skip
      obtain ⟨k, hk, rfl⟩ := rl_mk c1 c9
      refine lv_aload_n hx hb dL_number_22 rfl (lv_at hl 0 rfl) ?_
      refine va_get (D := D) (ci := 2) (v := .ref (ad 33)) (C := RL) (T := TL) (N := 5) hx hb hA9 inL hown hK hP 0 (wx_at (by omega) h0) rfl 2 (by decide) (hA9 _ mfL_20) (fun _ h9 => h9) rfl dL_number_23 ?_
      refine lv_iload_n hx hb dL_number_26 rfl (lv_at hl 1 rfl) ?_
      refine va_iald hx hb hK hP 33 0 (wx_at (by omega) h3) rfl (inN) dL_number_27 ?_
      refine lv_topi (fun z1 ez1 => ?_)
      obtain rfl : z1 = gr k := by rw [ez1, clN]
      refine W.widen (k := 1) (n := 6) (by decide) (by decide) ?_
      refine vx_ret ?_
      exact W.iret (v := (gr k)) hx hb hr (fun t ht hW => ⟨⟨(gr k), ce, rfl, ⟨rfl, k, hk, rfl, rfl⟩, by rw [ht]; exact hP, va_K.moved hW.alike hK, hD⟩, hS.F ht⟩) hS.2.2 dL_number_28
    · skip
      have no : ¬ ∃ k, k < gc ∧ x = nI k := fun ⟨k, q1, q2⟩ => c9 (by rw [q2]; exact nI_lt q1 (by omega))
      exact thrN hx hb hlt hown hA9 s90 hE hS hU (hl.1.trans hml.symm) dL_number_12 dL_number_15 dL_number_16 dL_number_18 dL_number_21 htab (Nat.le_of_ble_eq_true rfl) (Nat.le_of_ble_eq_true rfl) (Nat.le_of_ble_eq_true rfl) (Nat.le_of_ble_eq_true rfl) hlocks ⟨rfl, no⟩ (by decide) (by decide)
