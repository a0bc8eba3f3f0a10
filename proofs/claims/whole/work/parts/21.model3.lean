set_option maxHeartbeats 4000000 in
set_option maxRecDepth 100000 in
theorem c_M_least (l : Launch) (D : va_G) (cI cO cJ : ClassId) (N : Nat) (ad : Nat → Nat) (ce : Nat → va_E) (sz : Nat) (hN : 40 ≤ N) (th : Int32) (rs bu tl : Nat) (h0 : ce 34 = .inr (3, [.int (th), .ref (ad 35), .ref (ad 36), .ref (ad 37), .ref (ad 38), .ref (ad 39), .int (nI rs), .int (nI bu), .int (nI tl)])) (mt : Nat → Int32) (h2 : ce 36 = .inl (cI, 4000, .inl mt)) (f : Nat → Nat) (hmt : ∀ i, i < bu → mt i = nI (f i)) (hf : ∀ i, i < bu → f i < 512) (hbu : bu ≤ 4000) (cg9 : Nat → Int32) (h3 : ce 37 = .inl (cI, 512, .inl cg9)) (a b kx : Int32) : Met l yM_least (.code yM_least bM_least 6 (some .int) :: WA) ({ frames := 2, cells := 0, slots := 0, locals := 45 }) (PM D (TY cI cO cJ) N ad ce sz [.ref (ad 34), .int (a), .int (b), .int (kx)]) (va_Qi (fun (r : Int32) (ce1 : Nat → va_E) => (∀ j, j ≠ 34 → j ≠ 37 → ce1 j = ce j) ∧ ((¬ PA a b bu ∧ r = nI 0 ∧ ce1 34 = .inr (3, [.int (nI 1), .ref (ad 35), .ref (ad 36), .ref (ad 37), .ref (ad 38), .ref (ad 39), .int (nI rs), .int (nI bu), .int (nI tl)])) ∨ (∃ u v, u ≤ v ∧ v ≤ bu ∧ a = nI u ∧ b = nI v ∧ (¬ ∃ k0, k0 < v - u ∧ kx = nI k0) ∧ r = nI 0 ∧ ce1 34 = .inr (3, [.int (nI 2), .ref (ad 35), .ref (ad 36), .ref (ad 37), .ref (ad 38), .ref (ad 39), .int (nI rs), .int (nI bu), .int (nI tl)])) ∨ (∃ u v k0 y, u ≤ v ∧ v ≤ bu ∧ a = nI u ∧ b = nI v ∧ k0 < v - u ∧ kx = nI k0 ∧ KT f u v k0 y ∧ r = nI y ∧ ce1 34 = .inr (3, [.int (nI 0), .ref (ad 35), .ref (ad 36), .ref (ad 37), .ref (ad 38), .ref (ad 39), .int (nI rs), .int (nI bu), .int (nI tl)]) ∧ ∃ g : Nat → Int32, ce1 37 = .inl (cI, 512, .inl g)) ) ∧ ∃ g : Nat → Int32, ce1 37 = .inl (cI, 512, .inl g)) (BW D (TY cI cO cJ) N ad (AW N ad sz)) (AW N ad sz)) 0 0 (AW N ad sz) := by
  refine Met.ofW (cc := bM_least) (maxL := 6) (ret := (some .int)) (by decide) rfl ?_
  intro p e s m args below meth c s₁ B hml hv
  obtain ⟨rfl, hsz, hP, hK, hD0⟩ := hv
  have hx := B.exec
  have hb := B.bytes
  have hr := B.returns
  have hA9 : ∀ w ∈ WA, w.before _ s = true := fun w h => atoms_spec (ws := .code yM_least bM_least 6 (some .int) :: WA) B.pre w (List.mem_cons_of_mem _ h)
  have hown : s.vm.findClass RM = some m.cls := findClass_of_methodNamed B.named
  have hlocks := B.notSynchronized
  subst hsz
  have hD := aw_D (sz := s.heap.size) hD0
  generalize hAe : AW N ad s.heap.size = A at hD ⊢
  have hA : ∀ q, s.heap.size ≤ q → A q := fun q h => by rw [← hAe]; exact Or.inr h
  clear hAe hD0
  have hl := lv_entry ([.ref (ad 34), .int (a), .int (b), .int (kx)]) (n := 6) (Nat.le_of_ble_eq_true rfl)
  rw [lg_entry_eq]
  generalize (lg_sl ([.ref (ad 34), .int (a), .int (b), .int (kx)]) ++ List.replicate (6 - (lg_sl ([.ref (ad 34), .int (a), .int (b), .int (kx)])).length) Slot.unset).toArray = ls at hl ⊢
  have hl : lv_has ls 6 [(0, .ref (ad 34)), (1, .int (a)), (2, .int (b)), (3, .int (kx))] := hl
  refine st0 (A := A) (fun H locs hS hH => ?_)
  rw [← hH] at hP
  clear hH
  refine lv_aload_n hx hb dM_least_0 rfl (lv_at hl 0 rfl) ?_
  refine lv_iload_n hx hb dM_least_1 rfl (lv_at hl 1 rfl) ?_
  refine lv_iload_n hx hb dM_least_2 rfl (lv_at hl 2 rfl) ?_
  refine lv_iconst (v := nI (bN false)) hx hb dM_least_3 (by decide +kernel) ?_
  refine cvi (va_runV (As := [.int (a), .int (b), .int (nI (bN false))]) (rest := []) ⟨hx, hb, hml, hown, hA9⟩ (c_M_noPart l D cI cO cJ N ad ce H.size hN (th) rs bu tl h0 hbu (a) (b) false) (cwV 3 hA9 (gV mlM_42 miM_noPart msM_noPart mn_M mkM_noPart) rfl rfl rfl (by decide +kernel) ⟨Nat.le_of_ble_eq_true rfl, Nat.le_of_ble_eq_true rfl⟩) ⟨PM_bl, wx_recv hK hP (by omega) h0 rfl, PM_mk hK hP hD⟩ rfl rfl hl.1 rfl (lv_room (Nat.le_of_ble_eq_true rfl)) dM_least_4 ⟨Nat.le_of_ble_eq_true rfl, Nat.le_of_ble_eq_true rfl⟩) hS hD hA (fun r1 ce1 H locs hpost hP hD hS => ?_)
  obtain ⟨nf, ⟨pa, hm, rfl, nz⟩ | ⟨np, rfl, nz⟩⟩ := hpost
  · skip
    have q2 : ce1 36 = .inl (cI, 4000, .inl mt) := (nf 36 (by omega)).trans h2
    have q3 : ce1 37 = .inl (cI, 512, .inl cg9) := (nf 37 (by omega)).trans h3
    have fr4 : ∀ j, j ≠ 34 → ce1 j = ce j := fun j g0 => (nf j g0)
    obtain ⟨u, v, huv, hv, rfl, rfl⟩ := pa
    refine lv_if_ne (tgt := 34) hx hb dM_least_7 (by decide) (fun c7 => ?_) (fun c7 => ?_)
    · skip
      exact absurd (show nI (bN false) = 0 from nI_0) c7
    · skip
      refine lv_aload_n hx hb dM_least_10 rfl (lv_at hl 0 rfl) ?_
      refine lv_iconst (v := nI 2) hx hb dM_least_11 (by decide +kernel) ?_
      refine lv_iload_n hx hb dM_least_12 rfl (lv_at hl 3 rfl) ?_
      refine lv_if_lt (tgt := 23) hx hb dM_least_13 (by decide) (fun c13 => ?_) (fun c13 => ?_)
      · skip
        have nk : ¬ ∃ k0, k0 < v - u ∧ kx = nI k0 := fun ⟨k0, q1, q2⟩ => neg_n c13 q2
        refine lv_iconst (v := nI (bN true)) hx hb dM_least_23 (by decide +kernel) ?_
        refine lv_goto (tgt := 28) hx hb dM_least_24 (by decide) ?_
        refine cvi (va_runV (As := [.int (nI 2), .int (nI (bN true))]) (rest := []) ⟨hx, hb, hml, hown, hA9⟩ (c_M_refuse l D cI cO cJ N ad ce1 H.size hN (nI 0) rs bu tl nz 2 true) (cwV 2 hA9 (gV mlM_38 miM_refuse msM_refuse mn_M mkM_refuse) rfl rfl rfl (by decide +kernel) ⟨Nat.le_of_ble_eq_true rfl, Nat.le_of_ble_eq_true rfl⟩) ⟨PM_bl, wx_recv hK hP (by omega) nz rfl, PM_mk hK hP hD⟩ rfl rfl hl.1 rfl (lv_room (Nat.le_of_ble_eq_true rfl)) dM_least_28 ⟨Nat.le_of_ble_eq_true rfl, Nat.le_of_ble_eq_true rfl⟩) hS hD hA (fun r5 ce2 H locs hpost hP hD hS => ?_)
        obtain ⟨rfl, rf, rz⟩ := hpost
        have q6 : ce2 34 = .inr (3, [.int (nI 2), .ref (ad 35), .ref (ad 36), .ref (ad 37), .ref (ad 38), .ref (ad 39), .int (nI rs), .int (nI bu), .int (nI tl)]) := rz
        have q7 : ce2 36 = .inl (cI, 4000, .inl mt) := (rf 36 (by omega)).trans q2
        have q8 : ce2 37 = .inl (cI, 512, .inl cg9) := (rf 37 (by omega)).trans q3
        have fr9 : ∀ j, j ≠ 34 → ce2 j = ce j := fun j g0 => (rf j g0).trans (fr4 j g0)
        refine lv_if_eq (tgt := 36) hx hb dM_least_31 (by decide) (fun c31 => ?_) (fun c31 => ?_)
        · skip
          exact absurd c31 (by decide +kernel)
        · skip
          refine lv_iconst (v := nI 0) hx hb dM_least_34 (by decide +kernel) ?_
          exact W.iret (v := (nI 0)) hx hb hr (fun t ht hW => ⟨⟨(nI 0), ce2, rfl, ⟨(fun j g0 g1 => fr9 j g0), Or.inr (Or.inl ⟨u, v, huv, hv, rfl, rfl, nk, rfl, q6⟩), cg9, q8⟩, by rw [ht]; exact hP, va_K.moved hW.alike hK, hD⟩, hS.F ht⟩) hS.2.2 dM_least_35
      · skip
        refine lv_iload_n hx hb dM_least_16 rfl (lv_at hl 3 rfl) ?_
        refine lv_iload_n hx hb dM_least_17 rfl (lv_at hl 2 rfl) ?_
        refine lv_iload_n hx hb dM_least_18 rfl (lv_at hl 1 rfl) ?_
        refine lv_isub hx hb dM_least_19 ?_
        refine lv_icmp_lt (tgt := 27) hx hb dM_least_20 (by decide) (fun c20 => ?_) (fun c20 => ?_)
        · skip
          obtain ⟨k0, hk0, rfl⟩ := rl_mk c13 (by rw [← pk_sub huv]; exact c20)
          refine lv_iconst (v := nI (bN false)) hx hb dM_least_27 (by decide +kernel) ?_
          refine cvi (va_runV (As := [.int (nI 2), .int (nI (bN false))]) (rest := []) ⟨hx, hb, hml, hown, hA9⟩ (c_M_refuse l D cI cO cJ N ad ce1 H.size hN (nI 0) rs bu tl nz 2 false) (cwV 2 hA9 (gV mlM_38 miM_refuse msM_refuse mn_M mkM_refuse) rfl rfl rfl (by decide +kernel) ⟨Nat.le_of_ble_eq_true rfl, Nat.le_of_ble_eq_true rfl⟩) ⟨PM_bl, wx_recv hK hP (by omega) nz rfl, PM_mk hK hP hD⟩ rfl rfl hl.1 rfl (lv_room (Nat.le_of_ble_eq_true rfl)) dM_least_28 ⟨Nat.le_of_ble_eq_true rfl, Nat.le_of_ble_eq_true rfl⟩) hS hD hA (fun r10 ce2 H locs hpost hP hD hS => ?_)
          obtain ⟨rfl, rf, rz⟩ := hpost
          have q11 : ce2 34 = .inr (3, [.int (nI 0), .ref (ad 35), .ref (ad 36), .ref (ad 37), .ref (ad 38), .ref (ad 39), .int (nI rs), .int (nI bu), .int (nI tl)]) := rz
          have q12 : ce2 36 = .inl (cI, 4000, .inl mt) := (rf 36 (by omega)).trans q2
          have q13 : ce2 37 = .inl (cI, 512, .inl cg9) := (rf 37 (by omega)).trans q3
          have fr14 : ∀ j, j ≠ 34 → ce2 j = ce j := fun j g0 => (rf j g0).trans (fr4 j g0)
          refine lv_if_eq (tgt := 36) hx hb dM_least_31 (by decide) (fun c31 => ?_) (fun c31 => ?_)
          · skip
            refine lv_aload_n hx hb dM_least_36 rfl (lv_at hl 0 rfl) ?_
            refine lv_iload_n hx hb dM_least_37 rfl (lv_at hl 1 rfl) ?_
            refine lv_iload_n hx hb dM_least_38 rfl (lv_at hl 2 rfl) ?_
            refine cv (va_runV (As := [.int (nI u), .int (nI v)]) (rest := []) ⟨hx, hb, hml, hown, hA9⟩ (c_M_counted l D cI cO cJ N ad ce2 H.size hN (nI 0) rs bu tl q11 mt q12 f hmt hf hbu cg9 q13 u v huv hv) (cwV 2 hA9 (gV mlM_46 miM_counted msM_counted mn_M mkM_counted) rfl rfl rfl (by decide +kernel) ⟨Nat.le_of_ble_eq_true rfl, Nat.le_of_ble_eq_true rfl⟩) ⟨PM_bl, wx_recv hK hP (by omega) q11 rfl, PM_mk hK hP hD⟩ rfl rfl hl.1 rfl (lv_room (Nat.le_of_ble_eq_true rfl)) dM_least_39 ⟨Nat.le_of_ble_eq_true rfl, Nat.le_of_ble_eq_true rfl⟩) hS hD hA (fun ce3 H locs hpost hP hD hS => ?_)
            obtain ⟨cf, cg, cz, ch⟩ := hpost
            have q16 : ce3 34 = .inr (3, [.int (nI 0), .ref (ad 35), .ref (ad 36), .ref (ad 37), .ref (ad 38), .ref (ad 39), .int (nI rs), .int (nI bu), .int (nI tl)]) := (cf 34 (by omega)).trans q11
            have q17 : ce3 36 = .inl (cI, 4000, .inl mt) := (cf 36 (by omega)).trans q12
            have fr18 : ∀ j, j ≠ 34 → j ≠ 37 → ce3 j = ce j := fun j g0 g1 => (cf j g1).trans (fr14 j g0)
            refine lv_iload_n hx hb dM_least_42 rfl (lv_at hl 3 rfl) ?_
            refine lv_istore (lv' := [(4, .int (nI k0)), (0, .ref (ad 34)), (1, .int (nI u)), (2, .int (nI v)), (3, .int (nI k0))]) hx hb dM_least_43 hl (by decide) rfl (fun ls hl => ?_)
            refine lv_iconst (v := nI 0) hx hb dM_least_45 (by decide +kernel) ?_
            refine lv_istore (lv' := [(5, .int (nI 0)), (4, .int (nI k0)), (0, .ref (ad 34)), (1, .int (nI u)), (2, .int (nI v)), (3, .int (nI k0))]) hx hb dM_least_46 hl (by decide) rfl (fun ls hl => ?_)
            obtain ⟨y, hy0⟩ : ∃ z : Nat, (0) = z := ⟨_, rfl⟩
            replace hl : lv_has ls 6 [(5, .int (nI y)), (4, .int (nI (k0 - lq f y u v))), (0, .ref (ad 34)), (1, .int (nI u)), (2, .int (nI v)), (3, .int (nI k0))] := by subst hy0; rw [lq_0 f huv, Nat.sub_zero]; exact lv_sub hl [0, 1, 2, 3, 4, 5] rfl
            have J : y ≤ 512 ∧ lq f y u v ≤ k0 := by subst hy0; exact ⟨by omega, by rw [lq_0 f huv]; omega⟩
            clear hy0
            obtain ⟨k9, hk9⟩ : ∃ z9 : Nat, z9 = 512 - y := ⟨_, rfl⟩
            induction k9 using Nat.strongRecOn generalizing y ls with
            | ind k9 ih =>
              obtain ⟨j1, j2⟩ := J
              have hy5 : y < 512 := by
                rcases Nat.lt_or_ge y 512 with q | q
                · exact q
                · rw [show y = 512 by omega, lq_512 hf huv hv] at j2; omega
              have el := eq_le f y huv
              have ls := lq_s f y huv
              refine lv_iload hx hb dM_least_48 (lv_at hl 1 rfl) ?_
              refine lv_aload_n hx hb dM_least_50 rfl (lv_at hl 2 rfl) ?_
              refine va_get (D := D) (ci := 3) (v := .ref (ad 37)) (C := RM) (T := TM) (N := 9) hx hb hA9 inM hown hK hP 34 (wx_at (by omega) q16) rfl 3 (by decide) (hA9 _ mfM_20) (fun _ h9 => h9) rfl dM_least_51 ?_
              refine lv_iload hx hb dM_least_54 (lv_at hl 0 rfl) ?_
              refine va_iald hx hb hK hP 37 0 (wx_at (by omega) cz) rfl (inN) dM_least_56 ?_
              refine lv_topi (fun z19 ez19 => ?_)
              obtain rfl : z19 = nI (eq f y u v) := by rw [ez19, clN]; exact ch y hy5
              refine lv_icmp_lt (tgt := 78) hx hb dM_least_57 (by decide) (fun c57 => ?_) (fun c57 => ?_)
              · skip
                have d1 := ltN c57
                refine lv_iload hx hb dM_least_78 (lv_at hl 0 rfl) ?_
                exact W.iret (v := (nI y)) hx hb hr (fun t ht hW => ⟨⟨(nI y), ce3, rfl, ⟨(fun j g0 g1 => fr18 j g0 g1), Or.inr (Or.inr ⟨u, v, k0, y, huv, hv, rfl, rfl, hk0, rfl, ⟨j2, by omega⟩, rfl, q16, cg, cz⟩), cg, cz⟩, by rw [ht]; exact hP, va_K.moved hW.alike hK, hD⟩, hS.F ht⟩) hS.2.2 dM_least_80
              · skip
                have d1 := nltN c57
                refine lv_iload hx hb dM_least_60 (lv_at hl 1 rfl) ?_
                refine lv_aload_n hx hb dM_least_62 rfl (lv_at hl 2 rfl) ?_
                refine va_get (D := D) (ci := 3) (v := .ref (ad 37)) (C := RM) (T := TM) (N := 9) hx hb hA9 inM hown hK hP 34 (wx_at (by omega) q16) rfl 3 (by decide) (hA9 _ mfM_20) (fun _ h9 => h9) rfl dM_least_63 ?_
                refine lv_iload hx hb dM_least_66 (lv_at hl 0 rfl) ?_
                refine va_iald hx hb hK hP 37 0 (wx_at (by omega) cz) rfl (inN) dM_least_68 ?_
                refine lv_topi (fun z20 ez20 => ?_)
                obtain rfl : z20 = nI (eq f y u v) := by rw [ez20, clN]; exact ch y hy5
                refine lv_isub hx hb dM_least_69 ?_
                refine lv_topi (fun z21 ez21 => ?_)
                obtain rfl : z21 = nI (k0 - lq f (y + 1) u v) := by rw [ez21]; rw [pk_sub d1]; exact congrArg nI (by omega)
                refine lv_istore (lv' := [(4, .int (nI (k0 - lq f (y + 1) u v))), (5, .int (nI y)), (0, .ref (ad 34)), (1, .int (nI u)), (2, .int (nI v)), (3, .int (nI k0))]) hx hb dM_least_70 hl (by decide) rfl (fun ls hl => ?_)
                refine lv_iinc (v := nI (y + 1)) (lv' := [(5, .int (nI (y + 1))), (4, .int (nI (k0 - lq f (y + 1) u v))), (0, .ref (ad 34)), (1, .int (nI u)), (2, .int (nI v)), (3, .int (nI k0))]) hx hb dM_least_72 hl (k := 1) rfl (nI_1 y) (by decide) rfl (fun ls hl => ?_)
                refine lv_goto (tgt := 48) hx hb dM_least_75 (by decide) ?_
                exact ih _ (by omega) (ls := ls) (y := y + 1) (lv_sub hl [0, 1, 2, 3, 4, 5] rfl) (⟨by omega, by omega⟩) rfl
          · skip
            exact absurd (show nI (bN false) = 0 from nI_0) c31
        · skip
          have nk : ¬ ∃ k0, k0 < v - u ∧ kx = nI k0 := fun ⟨k0, q1, q2⟩ => c20 (by rw [q2, pk_sub huv]; exact nI_lt q1 (by omega))
          refine lv_iconst (v := nI (bN true)) hx hb dM_least_23 (by decide +kernel) ?_
          refine lv_goto (tgt := 28) hx hb dM_least_24 (by decide) ?_
          refine cvi (va_runV (As := [.int (nI 2), .int (nI (bN true))]) (rest := []) ⟨hx, hb, hml, hown, hA9⟩ (c_M_refuse l D cI cO cJ N ad ce1 H.size hN (nI 0) rs bu tl nz 2 true) (cwV 2 hA9 (gV mlM_38 miM_refuse msM_refuse mn_M mkM_refuse) rfl rfl rfl (by decide +kernel) ⟨Nat.le_of_ble_eq_true rfl, Nat.le_of_ble_eq_true rfl⟩) ⟨PM_bl, wx_recv hK hP (by omega) nz rfl, PM_mk hK hP hD⟩ rfl rfl hl.1 rfl (lv_room (Nat.le_of_ble_eq_true rfl)) dM_least_28 ⟨Nat.le_of_ble_eq_true rfl, Nat.le_of_ble_eq_true rfl⟩) hS hD hA (fun r22 ce2 H locs hpost hP hD hS => ?_)
          obtain ⟨rfl, rf, rz⟩ := hpost
          have q23 : ce2 34 = .inr (3, [.int (nI 2), .ref (ad 35), .ref (ad 36), .ref (ad 37), .ref (ad 38), .ref (ad 39), .int (nI rs), .int (nI bu), .int (nI tl)]) := rz
          have q24 : ce2 36 = .inl (cI, 4000, .inl mt) := (rf 36 (by omega)).trans q2
          have q25 : ce2 37 = .inl (cI, 512, .inl cg9) := (rf 37 (by omega)).trans q3
          have fr26 : ∀ j, j ≠ 34 → ce2 j = ce j := fun j g0 => (rf j g0).trans (fr4 j g0)
          refine lv_if_eq (tgt := 36) hx hb dM_least_31 (by decide) (fun c31 => ?_) (fun c31 => ?_)
          · skip
            exact absurd c31 (by decide +kernel)
          · skip
            refine lv_iconst (v := nI 0) hx hb dM_least_34 (by decide +kernel) ?_
            exact W.iret (v := (nI 0)) hx hb hr (fun t ht hW => ⟨⟨(nI 0), ce2, rfl, ⟨(fun j g0 g1 => fr26 j g0), Or.inr (Or.inl ⟨u, v, huv, hv, rfl, rfl, nk, rfl, q23⟩), cg9, q25⟩, by rw [ht]; exact hP, va_K.moved hW.alike hK, hD⟩, hS.F ht⟩) hS.2.2 dM_least_35
  · skip
    have q27 : ce1 36 = .inl (cI, 4000, .inl mt) := (nf 36 (by omega)).trans h2
    have q28 : ce1 37 = .inl (cI, 512, .inl cg9) := (nf 37 (by omega)).trans h3
    have fr29 : ∀ j, j ≠ 34 → ce1 j = ce j := fun j g0 => (nf j g0)
    have no : ¬ PA a b bu := fun h => np ⟨h, rfl⟩
    refine lv_if_ne (tgt := 34) hx hb dM_least_7 (by decide) (fun c7 => ?_) (fun c7 => ?_)
    · skip
      refine lv_iconst (v := nI 0) hx hb dM_least_34 (by decide +kernel) ?_
      exact W.iret (v := (nI 0)) hx hb hr (fun t ht hW => ⟨⟨(nI 0), ce1, rfl, ⟨(fun j g0 g1 => fr29 j g0), Or.inl ⟨no, rfl, nz⟩, cg9, q28⟩, by rw [ht]; exact hP, va_K.moved hW.alike hK, hD⟩, hS.F ht⟩) hS.2.2 dM_least_35
    · skip
      exact absurd c7 (by decide +kernel)

set_option maxHeartbeats 4000000 in
set_option maxRecDepth 100000 in
theorem c_M_different (l : Launch) (D : va_G) (cI cO cJ : ClassId) (N : Nat) (ad : Nat → Nat) (ce : Nat → va_E) (sz : Nat) (hN : 40 ≤ N) (th : Int32) (rs bu tl : Nat) (h0 : ce 34 = .inr (3, [.int (th), .ref (ad 35), .ref (ad 36), .ref (ad 37), .ref (ad 38), .ref (ad 39), .int (nI rs), .int (nI bu), .int (nI tl)])) (mt : Nat → Int32) (h2 : ce 36 = .inl (cI, 4000, .inl mt)) (f : Nat → Nat) (hmt : ∀ i, i < bu → mt i = nI (f i)) (hf : ∀ i, i < bu → f i < 512) (hbu : bu ≤ 4000) (cg9 : Nat → Int32) (h3 : ce 37 = .inl (cI, 512, .inl cg9)) (ga gb : Nat → Int32) (h5 : ce 38 = .inl (cI, 512, .inl ga)) (h6 : ce 39 = .inl (cI, 512, .inl gb)) (a b : Int32) : Met l yM_different (.code yM_different bM_different 4 (some .int) :: WA) ({ frames := 2, cells := 0, slots := 0, locals := 45 }) (PM D (TY cI cO cJ) N ad ce sz [.ref (ad 34), .int (a), .int (b)]) (va_Qi (fun (r : Int32) (ce1 : Nat → va_E) => (∀ j, j ≠ 34 → j ≠ 37 → j ≠ 38 → j ≠ 39 → ce1 j = ce j) ∧ (∃ g : Nat → Int32, ce1 37 = .inl (cI, 512, .inl g)) ∧ ((¬ PA a b bu ∧ r = nI 0 ∧ ce1 34 = .inr (3, [.int (nI 1), .ref (ad 35), .ref (ad 36), .ref (ad 37), .ref (ad 38), .ref (ad 39), .int (nI rs), .int (nI bu), .int (nI tl)]) ∧ ce1 38 = .inl (cI, 512, .inl ga) ∧ ce1 39 = .inl (cI, 512, .inl gb)) ∨ (∃ u v, u ≤ v ∧ v ≤ bu ∧ a = nI u ∧ b = nI v ∧ r = nI (nd f u v 512) ∧ ce1 34 = .inr (3, [.int (nI 0), .ref (ad 35), .ref (ad 36), .ref (ad 37), .ref (ad 38), .ref (ad 39), .int (nI rs), .int (nI bu), .int (nI (nd f u v 512))]) ∧ ∃ ga1 gb1 : Nat → Int32, ce1 38 = .inl (cI, 512, .inl ga1) ∧ ce1 39 = .inl (cI, 512, .inl gb1) ∧ DF f u v 512 ga1 gb1))) (BW D (TY cI cO cJ) N ad (AW N ad sz)) (AW N ad sz)) 0 0 (AW N ad sz) := by
  refine Met.ofW (cc := bM_different) (maxL := 4) (ret := (some .int)) (by decide) rfl ?_
  intro p e s m args below meth c s₁ B hml hv
  obtain ⟨rfl, hsz, hP, hK, hD0⟩ := hv
  have hx := B.exec
  have hb := B.bytes
  have hr := B.returns
  have hA9 : ∀ w ∈ WA, w.before _ s = true := fun w h => atoms_spec (ws := .code yM_different bM_different 4 (some .int) :: WA) B.pre w (List.mem_cons_of_mem _ h)
  have hown : s.vm.findClass RM = some m.cls := findClass_of_methodNamed B.named
  have hlocks := B.notSynchronized
  subst hsz
  have hD := aw_D (sz := s.heap.size) hD0
  generalize hAe : AW N ad s.heap.size = A at hD ⊢
  have hA : ∀ q, s.heap.size ≤ q → A q := fun q h => by rw [← hAe]; exact Or.inr h
  clear hAe hD0
  have hl := lv_entry ([.ref (ad 34), .int (a), .int (b)]) (n := 4) (Nat.le_of_ble_eq_true rfl)
  rw [lg_entry_eq]
  generalize (lg_sl ([.ref (ad 34), .int (a), .int (b)]) ++ List.replicate (4 - (lg_sl ([.ref (ad 34), .int (a), .int (b)])).length) Slot.unset).toArray = ls at hl ⊢
  have hl : lv_has ls 4 [(0, .ref (ad 34)), (1, .int (a)), (2, .int (b))] := hl
  refine st0 (A := A) (fun H locs hS hH => ?_)
  rw [← hH] at hP
  clear hH
  refine lv_aload_n hx hb dM_different_0 rfl (lv_at hl 0 rfl) ?_
  refine lv_iload_n hx hb dM_different_1 rfl (lv_at hl 1 rfl) ?_
  refine lv_iload_n hx hb dM_different_2 rfl (lv_at hl 2 rfl) ?_
  refine lv_iconst (v := nI (bN false)) hx hb dM_different_3 (by decide +kernel) ?_
  refine cvi (va_runV (As := [.int (a), .int (b), .int (nI (bN false))]) (rest := []) ⟨hx, hb, hml, hown, hA9⟩ (c_M_noPart l D cI cO cJ N ad ce H.size hN (th) rs bu tl h0 hbu (a) (b) false) (cwV 3 hA9 (gV mlM_42 miM_noPart msM_noPart mn_M mkM_noPart) rfl rfl rfl (by decide +kernel) ⟨Nat.le_of_ble_eq_true rfl, Nat.le_of_ble_eq_true rfl⟩) ⟨PM_bl, wx_recv hK hP (by omega) h0 rfl, PM_mk hK hP hD⟩ rfl rfl hl.1 rfl (lv_room (Nat.le_of_ble_eq_true rfl)) dM_different_4 ⟨Nat.le_of_ble_eq_true rfl, Nat.le_of_ble_eq_true rfl⟩) hS hD hA (fun r1 ce1 H locs hpost hP hD hS => ?_)
  obtain ⟨nf, ⟨pa, hm, rfl, nz⟩ | ⟨np, rfl, nz⟩⟩ := hpost
  · skip
    have q2 : ce1 36 = .inl (cI, 4000, .inl mt) := (nf 36 (by omega)).trans h2
    have q3 : ce1 37 = .inl (cI, 512, .inl cg9) := (nf 37 (by omega)).trans h3
    have q4 : ce1 38 = .inl (cI, 512, .inl ga) := (nf 38 (by omega)).trans h5
    have q5 : ce1 39 = .inl (cI, 512, .inl gb) := (nf 39 (by omega)).trans h6
    have fr6 : ∀ j, j ≠ 34 → ce1 j = ce j := fun j g0 => (nf j g0)
    obtain ⟨u, v, huv, hv, rfl, rfl⟩ := pa
    refine lv_if_eq (tgt := 12) hx hb dM_different_7 (by decide) (fun c7 => ?_) (fun c7 => ?_)
    · skip
      refine lv_aload_n hx hb dM_different_12 rfl (lv_at hl 0 rfl) ?_
      refine lv_iload_n hx hb dM_different_13 rfl (lv_at hl 1 rfl) ?_
      refine lv_iload_n hx hb dM_different_14 rfl (lv_at hl 2 rfl) ?_
      refine cv (va_runV (As := [.int (nI u), .int (nI v)]) (rest := []) ⟨hx, hb, hml, hown, hA9⟩ (c_M_counted l D cI cO cJ N ad ce1 H.size hN (nI 0) rs bu tl nz mt q2 f hmt hf hbu cg9 q3 u v huv hv) (cwV 2 hA9 (gV mlM_46 miM_counted msM_counted mn_M mkM_counted) rfl rfl rfl (by decide +kernel) ⟨Nat.le_of_ble_eq_true rfl, Nat.le_of_ble_eq_true rfl⟩) ⟨PM_bl, wx_recv hK hP (by omega) nz rfl, PM_mk hK hP hD⟩ rfl rfl hl.1 rfl (lv_room (Nat.le_of_ble_eq_true rfl)) dM_different_15 ⟨Nat.le_of_ble_eq_true rfl, Nat.le_of_ble_eq_true rfl⟩) hS hD hA (fun ce2 H locs hpost hP hD hS => ?_)
      obtain ⟨cf, cg, cz, ch⟩ := hpost
      have q8 : ce2 34 = .inr (3, [.int (nI 0), .ref (ad 35), .ref (ad 36), .ref (ad 37), .ref (ad 38), .ref (ad 39), .int (nI rs), .int (nI bu), .int (nI tl)]) := (cf 34 (by omega)).trans nz
      have q9 : ce2 36 = .inl (cI, 4000, .inl mt) := (cf 36 (by omega)).trans q2
      have q10 : ce2 38 = .inl (cI, 512, .inl ga) := (cf 38 (by omega)).trans q4
      have q11 : ce2 39 = .inl (cI, 512, .inl gb) := (cf 39 (by omega)).trans q5
      have fr12 : ∀ j, j ≠ 34 → j ≠ 37 → ce2 j = ce j := fun j g0 g1 => (cf j g1).trans (fr6 j g0)
      refine lv_aload_n hx hb dM_different_18 rfl (lv_at hl 0 rfl) ?_
      refine lv_iconst (v := nI (nd f u v 0)) hx hb dM_different_19 (by rw [show nd f u v 0 = 0 from rfl]; decide +kernel) ?_
      refine va_put (D := D) (ci := 3) (v := .int (nI (nd f u v 0))) (ty := .int) (C := RM) (T := TM) (N := 9) hx hb hA9 inM tyM tyM_ok nmM hown hK hP hD hS 34 (wx_at (by omega) q8) rfl 8 (by decide) (hA9 _ mfM_35) (fun _ h9 => h9) rfl (by decide +kernel) rfl rfl (Nat.le_of_ble_eq_true rfl) dM_different_20 (fun H locs hP hD hS => ?_)
      replace hP : va_P D CLS ((wx N ad ce2).set 34 (ad 34, .inr (3, [.int (nI 0), .ref (ad 35), .ref (ad 36), .ref (ad 37), .ref (ad 38), .ref (ad 39), .int (nI rs), .int (nI bu), .int (nI (nd f u v 0))]))) H := hP
      replace hD : va_D A ((wx N ad ce2).set 34 (ad 34, .inr (3, [.int (nI 0), .ref (ad 35), .ref (ad 36), .ref (ad 37), .ref (ad 38), .ref (ad 39), .int (nI rs), .int (nI bu), .int (nI (nd f u v 0))]))) := hD
      obtain ⟨ce3, hce3⟩ : ∃ z9, z9 = va_up ce2 34 (.inr (3, [.int (nI 0), .ref (ad 35), .ref (ad 36), .ref (ad 37), .ref (ad 38), .ref (ad 39), .int (nI rs), .int (nI bu), .int (nI (nd f u v 0))])) := ⟨_, rfl⟩
      rw [wx_set (by omega), ← hce3] at hP hD
      have q13 : ce3 36 = .inl (cI, 4000, .inl mt) := by rw [hce3, va_up_ne _ _ (by omega)]; exact q9
      have q14 : ce3 37 = .inl (cI, 512, .inl cg) := by rw [hce3, va_up_ne _ _ (by omega)]; exact cz
      have q15 : ce3 38 = .inl (cI, 512, .inl ga) := by rw [hce3, va_up_ne _ _ (by omega)]; exact q10
      have q16 : ce3 39 = .inl (cI, 512, .inl gb) := by rw [hce3, va_up_ne _ _ (by omega)]; exact q11
      have q17 : ce3 34 = .inr (3, [.int (nI 0), .ref (ad 35), .ref (ad 36), .ref (ad 37), .ref (ad 38), .ref (ad 39), .int (nI rs), .int (nI bu), .int (nI (nd f u v 0))]) := by rw [hce3, va_up_self]
      have fr18 : ∀ j, j ≠ 34 → j ≠ 37 → ce3 j = ce j := fun j h0 h1 => by rw [hce3, va_up_ne _ _ h0]; exact fr12 j h0 h1
      refine lv_iconst (v := nI 0) hx hb dM_different_23 (by decide +kernel) ?_
      refine lv_istore_n (lv' := [(3, .int (nI 0)), (0, .ref (ad 34)), (1, .int (nI u)), (2, .int (nI v))]) hx hb dM_different_24 rfl hl (by decide) rfl (fun ls hl => ?_)
      obtain ⟨cl, hcl0⟩ : ∃ z : Nat → va_E, ce3 = z := ⟨_, rfl⟩
      obtain ⟨w9, hw90⟩ : ∃ z : Nat, (0) = z := ⟨_, rfl⟩
      obtain ⟨ga1, hga10⟩ : ∃ z : Nat → Int32, (ga) = z := ⟨_, rfl⟩
      obtain ⟨gb1, hgb10⟩ : ∃ z : Nat → Int32, (gb) = z := ⟨_, rfl⟩
      replace hl : lv_has ls 4 [(3, .int (nI w9)), (0, .ref (ad 34)), (1, .int (nI u)), (2, .int (nI v))] := by subst hw90 hga10 hgb10; exact lv_sub hl [0, 1, 2, 3] rfl
      have J : (∀ j, j ≠ 34 → j ≠ 37 → j ≠ 38 → j ≠ 39 → cl j = ce j) ∧ cl 34 = .inr (3, [.int (nI 0), .ref (ad 35), .ref (ad 36), .ref (ad 37), .ref (ad 38), .ref (ad 39), .int (nI rs), .int (nI bu), .int (nI (nd f u v w9))]) ∧ cl 37 = .inl (cI, 512, .inl cg) ∧ cl 38 = .inl (cI, 512, .inl ga1) ∧ cl 39 = .inl (cI, 512, .inl gb1) ∧ w9 ≤ 512 ∧ DF f u v w9 ga1 gb1 := by
        subst hcl0 hw90 hga10 hgb10
        exact ⟨(fun j g0 g1 g2 g3 => fr18 j g0 g1), q17, q14, q15, q16, by omega, fun t ht => absurd ht (by omega)⟩
      rw [hcl0] at hP hD
      clear hcl0 hw90 hga10 hgb10
      obtain ⟨k9, hk9⟩ : ∃ z9 : Nat, z9 = 512 - w9 := ⟨_, rfl⟩
      induction k9 using Nat.strongRecOn generalizing w9 ga1 gb1 cl H locs ls with
      | ind k9 ih =>
        obtain ⟨fr0, e34, e37, e38, e39, j1, j2⟩ := J
        have nle := nd_le f u v w9
        refine lv_iload_n hx hb dM_different_25 rfl (lv_at hl 0 rfl) ?_
        refine lv_sipush (v := nI 512) hx hb dM_different_26 (by decide +kernel) ?_
        refine lv_icmp_ge (tgt := 82) hx hb dM_different_29 (by decide) (fun c29 => ?_) (fun c29 => ?_)
        · skip
          have d1 := leN c29
          have hw9 : w9 = 512 := by omega
          subst hw9
          refine lv_aload_n hx hb dM_different_82 rfl (lv_at hl 1 rfl) ?_
          refine va_get (D := D) (ci := 3) (v := .int (nI (nd f u v 512))) (C := RM) (T := TM) (N := 9) hx hb hA9 inM hown hK hP 34 (wx_at (by omega) e34) rfl 8 (by decide) (hA9 _ mfM_35) (fun _ h9 => h9) rfl dM_different_83 ?_
          exact W.iret (v := (nI (nd f u v 512))) hx hb hr (fun t ht hW => ⟨⟨(nI (nd f u v 512)), cl, rfl, ⟨fr0, ⟨cg, e37⟩, Or.inr ⟨u, v, huv, hv, rfl, rfl, rfl, e34, ga1, gb1, e38, e39, j2⟩⟩, by rw [ht]; exact hP, va_K.moved hW.alike hK, hD⟩, hS.F ht⟩) hS.2.2 dM_different_86
        · skip
          have d1 := nleN c29
          have el := eq_le f w9 huv
          refine lv_aload_n hx hb dM_different_32 rfl (lv_at hl 1 rfl) ?_
          refine va_get (D := D) (ci := 3) (v := .ref (ad 37)) (C := RM) (T := TM) (N := 9) hx hb hA9 inM hown hK hP 34 (wx_at (by omega) e34) rfl 3 (by decide) (hA9 _ mfM_20) (fun _ h9 => h9) rfl dM_different_33 ?_
          refine lv_iload_n hx hb dM_different_36 rfl (lv_at hl 0 rfl) ?_
          refine va_iald hx hb hK hP 37 0 (wx_at (by omega) e37) rfl (inN) dM_different_37 ?_
          refine lv_topi (fun z19 ez19 => ?_)
          obtain rfl : z19 = nI (eq f w9 u v) := by rw [ez19, clN]; exact ch w9 (by omega)
          refine lv_if_ne (tgt := 44) hx hb dM_different_38 (by decide) (fun c38 => ?_) (fun c38 => ?_)
          · skip
            have z1 : 0 < eq f w9 u v := Nat.pos_of_ne_zero (neN (b := 0) (fun q => c38 (q.trans nI_0)))
            have nb := nd_mono f u v (show w9 + 1 ≤ 512 by omega)
            rw [nd_s1 z1] at nb
            have nb2 := nd_le f u v 512
            refine lv_aload_n hx hb dM_different_44 rfl (lv_at hl 1 rfl) ?_
            refine va_get (D := D) (ci := 3) (v := .ref (ad 38)) (C := RM) (T := TM) (N := 9) hx hb hA9 inM hown hK hP 34 (wx_at (by omega) e34) rfl 4 (by decide) (hA9 _ mfM_23) (fun _ h9 => h9) rfl dM_different_45 ?_
            refine lv_aload_n hx hb dM_different_48 rfl (lv_at hl 1 rfl) ?_
            refine va_get (D := D) (ci := 3) (v := .int (nI (nd f u v w9))) (C := RM) (T := TM) (N := 9) hx hb hA9 inM hown hK hP 34 (wx_at (by omega) e34) rfl 8 (by decide) (hA9 _ mfM_35) (fun _ h9 => h9) rfl dM_different_49 ?_
            refine lv_iload_n hx hb dM_different_52 rfl (lv_at hl 0 rfl) ?_
            refine va_iast hx hb hK hP hD hS 38 0 (wx_at (by omega) e38) rfl (inN) dM_different_53 (fun H locs hP hD hS => ?_)
            rw [clN (a := (nd f u v w9))] at hP hD
            obtain ⟨ce4, hce4⟩ : ∃ z9, z9 = va_up cl 38 (.inl (cI, 512, .inl (upd ga1 (nd f u v w9) (nI w9)))) := ⟨_, rfl⟩
            rw [wx_set (by omega), ← hce4] at hP hD
            have q20 : ce4 34 = .inr (3, [.int (nI 0), .ref (ad 35), .ref (ad 36), .ref (ad 37), .ref (ad 38), .ref (ad 39), .int (nI rs), .int (nI bu), .int (nI (nd f u v w9))]) := by rw [hce4, va_up_ne _ _ (by omega)]; exact e34
            have q21 : ce4 37 = .inl (cI, 512, .inl cg) := by rw [hce4, va_up_ne _ _ (by omega)]; exact e37
            have q22 : ce4 39 = .inl (cI, 512, .inl gb1) := by rw [hce4, va_up_ne _ _ (by omega)]; exact e39
            have q23 : ce4 38 = .inl (cI, 512, .inl (upd ga1 (nd f u v w9) (nI w9))) := by rw [hce4, va_up_self]
            have fr24 : ∀ j, j ≠ 34 → j ≠ 37 → j ≠ 38 → j ≠ 39 → ce4 j = ce j := fun j h0 h1 h2 h3 => by rw [hce4, va_up_ne _ _ h2]; exact fr0 j h0 h1 h2 h3
            refine lv_aload_n hx hb dM_different_54 rfl (lv_at hl 1 rfl) ?_
            refine va_get (D := D) (ci := 3) (v := .ref (ad 39)) (C := RM) (T := TM) (N := 9) hx hb hA9 inM hown hK hP 34 (wx_at (by omega) q20) rfl 5 (by decide) (hA9 _ mfM_26) (fun _ h9 => h9) rfl dM_different_55 ?_
            refine lv_aload_n hx hb dM_different_58 rfl (lv_at hl 1 rfl) ?_
            refine lv_dup hx hb dM_different_59 rfl ?_
            refine va_get (D := D) (ci := 3) (v := .int (nI (nd f u v w9))) (C := RM) (T := TM) (N := 9) hx hb hA9 inM hown hK hP 34 (wx_at (by omega) q20) rfl 8 (by decide) (hA9 _ mfM_35) (fun _ h9 => h9) rfl dM_different_60 ?_
            refine lv_dup_x1 hx hb dM_different_63 rfl rfl ?_
            refine lv_iconst (v := nI 1) hx hb dM_different_64 (by decide +kernel) ?_
            refine lv_iadd hx hb dM_different_65 ?_
            refine lv_topi (fun z25 ez25 => ?_)
            obtain rfl : z25 = nI (nd f u v w9 + 1) := by rw [ez25]; exact nI_add _ _
            refine va_put (D := D) (ci := 3) (v := .int (nI (nd f u v w9 + 1))) (ty := .int) (C := RM) (T := TM) (N := 9) hx hb hA9 inM tyM tyM_ok nmM hown hK hP hD hS 34 (wx_at (by omega) q20) rfl 8 (by decide) (hA9 _ mfM_35) (fun _ h9 => h9) rfl (by decide +kernel) rfl rfl (Nat.le_of_ble_eq_true rfl) dM_different_66 (fun H locs hP hD hS => ?_)
            replace hP : va_P D CLS ((wx N ad ce4).set 34 (ad 34, .inr (3, [.int (nI 0), .ref (ad 35), .ref (ad 36), .ref (ad 37), .ref (ad 38), .ref (ad 39), .int (nI rs), .int (nI bu), .int (nI (nd f u v w9 + 1))]))) H := hP
            replace hD : va_D A ((wx N ad ce4).set 34 (ad 34, .inr (3, [.int (nI 0), .ref (ad 35), .ref (ad 36), .ref (ad 37), .ref (ad 38), .ref (ad 39), .int (nI rs), .int (nI bu), .int (nI (nd f u v w9 + 1))]))) := hD
            obtain ⟨ce5, hce5⟩ : ∃ z9, z9 = va_up ce4 34 (.inr (3, [.int (nI 0), .ref (ad 35), .ref (ad 36), .ref (ad 37), .ref (ad 38), .ref (ad 39), .int (nI rs), .int (nI bu), .int (nI (nd f u v w9 + 1))])) := ⟨_, rfl⟩
            rw [wx_set (by omega), ← hce5] at hP hD
            have q26 : ce5 37 = .inl (cI, 512, .inl cg) := by rw [hce5, va_up_ne _ _ (by omega)]; exact q21
            have q27 : ce5 38 = .inl (cI, 512, .inl (upd ga1 (nd f u v w9) (nI w9))) := by rw [hce5, va_up_ne _ _ (by omega)]; exact q23
            have q28 : ce5 39 = .inl (cI, 512, .inl gb1) := by rw [hce5, va_up_ne _ _ (by omega)]; exact q22
            have q29 : ce5 34 = .inr (3, [.int (nI 0), .ref (ad 35), .ref (ad 36), .ref (ad 37), .ref (ad 38), .ref (ad 39), .int (nI rs), .int (nI bu), .int (nI (nd f u v w9 + 1))]) := by rw [hce5, va_up_self]
            have fr30 : ∀ j, j ≠ 34 → j ≠ 37 → j ≠ 38 → j ≠ 39 → ce5 j = ce j := fun j h0 h1 h2 h3 => by rw [hce5, va_up_ne _ _ h0]; exact fr24 j h0 h1 h2 h3
            refine lv_aload_n hx hb dM_different_69 rfl (lv_at hl 1 rfl) ?_
            refine va_get (D := D) (ci := 3) (v := .ref (ad 37)) (C := RM) (T := TM) (N := 9) hx hb hA9 inM hown hK hP 34 (wx_at (by omega) q29) rfl 3 (by decide) (hA9 _ mfM_20) (fun _ h9 => h9) rfl dM_different_70 ?_
            refine lv_iload_n hx hb dM_different_73 rfl (lv_at hl 0 rfl) ?_
            refine va_iald hx hb hK hP 37 0 (wx_at (by omega) q26) rfl (inN) dM_different_74 ?_
            refine lv_topi (fun z31 ez31 => ?_)
            obtain rfl : z31 = nI (eq f w9 u v) := by rw [ez31, clN]; exact ch w9 (by omega)
            refine va_iast hx hb hK hP hD hS 39 0 (wx_at (by omega) q28) rfl (inN) dM_different_75 (fun H locs hP hD hS => ?_)
            rw [clN (a := (nd f u v w9))] at hP hD
            obtain ⟨ce6, hce6⟩ : ∃ z9, z9 = va_up ce5 39 (.inl (cI, 512, .inl (upd gb1 (nd f u v w9) (nI (eq f w9 u v))))) := ⟨_, rfl⟩
            rw [wx_set (by omega), ← hce6] at hP hD
            have q32 : ce6 34 = .inr (3, [.int (nI 0), .ref (ad 35), .ref (ad 36), .ref (ad 37), .ref (ad 38), .ref (ad 39), .int (nI rs), .int (nI bu), .int (nI (nd f u v w9 + 1))]) := by rw [hce6, va_up_ne _ _ (by omega)]; exact q29
            have q33 : ce6 37 = .inl (cI, 512, .inl cg) := by rw [hce6, va_up_ne _ _ (by omega)]; exact q26
            have q34 : ce6 38 = .inl (cI, 512, .inl (upd ga1 (nd f u v w9) (nI w9))) := by rw [hce6, va_up_ne _ _ (by omega)]; exact q27
            have q35 : ce6 39 = .inl (cI, 512, .inl (upd gb1 (nd f u v w9) (nI (eq f w9 u v)))) := by rw [hce6, va_up_self]
            have fr36 : ∀ j, j ≠ 34 → j ≠ 37 → j ≠ 38 → j ≠ 39 → ce6 j = ce j := fun j h0 h1 h2 h3 => by rw [hce6, va_up_ne _ _ h3]; exact fr30 j h0 h1 h2 h3
            refine lv_iinc (v := nI (w9 + 1)) (lv' := [(3, .int (nI (w9 + 1))), (0, .ref (ad 34)), (1, .int (nI u)), (2, .int (nI v))]) hx hb dM_different_76 hl (k := 0) rfl (nI_1 w9) (by decide) rfl (fun ls hl => ?_)
            refine lv_goto (tgt := 25) hx hb dM_different_79 (by decide) ?_
            exact ih _ (by omega) (ls := ls) (cl := ce6) (H := H) (locs := locs) (w9 := w9 + 1) (ga1 := upd ga1 (nd f u v w9) (nI w9)) (gb1 := upd gb1 (nd f u v w9) (nI (eq f w9 u v))) (hP := hP) (hD := hD) (hS := hS) (hl := lv_sub hl [0, 1, 2, 3] rfl) (J := ⟨(fun j g0 g1 g2 g3 => fr36 j g0 g1 g2 g3), by rw [nd_s1 z1]; exact q32, q33, q34, q35, by omega, j2.put z1⟩) (hk9 := rfl)
          · skip
            have z1 : eq f w9 u v = 0 := eqN (b := 0) (c38.trans nI_0.symm)
            refine lv_goto (tgt := 76) hx hb dM_different_41 (by decide) ?_
            refine lv_iinc (v := nI (w9 + 1)) (lv' := [(3, .int (nI (w9 + 1))), (0, .ref (ad 34)), (1, .int (nI u)), (2, .int (nI v))]) hx hb dM_different_76 hl (k := 0) rfl (nI_1 w9) (by decide) rfl (fun ls hl => ?_)
            refine lv_goto (tgt := 25) hx hb dM_different_79 (by decide) ?_
            exact ih _ (by omega) (ls := ls) (cl := cl) (H := H) (locs := locs) (w9 := w9 + 1) (ga1 := ga1) (gb1 := gb1) (hP := hP) (hD := hD) (hS := hS) (hl := lv_sub hl [0, 1, 2, 3] rfl) (J := ⟨(fun j g0 g1 g2 g3 => fr0 j g0 g1 g2 g3), by rw [nd_s0 z1]; exact e34, e37, e38, e39, by omega, j2.skip z1⟩) (hk9 := rfl)
    · skip
      exact absurd (show nI (bN false) = 0 from nI_0) c7
  · skip
    have q37 : ce1 36 = .inl (cI, 4000, .inl mt) := (nf 36 (by omega)).trans h2
    have q38 : ce1 37 = .inl (cI, 512, .inl cg9) := (nf 37 (by omega)).trans h3
    have q39 : ce1 38 = .inl (cI, 512, .inl ga) := (nf 38 (by omega)).trans h5
    have q40 : ce1 39 = .inl (cI, 512, .inl gb) := (nf 39 (by omega)).trans h6
    have fr41 : ∀ j, j ≠ 34 → ce1 j = ce j := fun j g0 => (nf j g0)
    have no : ¬ PA a b bu := fun h => np ⟨h, rfl⟩
    refine lv_if_eq (tgt := 12) hx hb dM_different_7 (by decide) (fun c7 => ?_) (fun c7 => ?_)
    · skip
      exact absurd c7 (by decide +kernel)
    · skip
      refine lv_iconst (v := nI 0) hx hb dM_different_10 (by decide +kernel) ?_
      exact W.iret (v := (nI 0)) hx hb hr (fun t ht hW => ⟨⟨(nI 0), ce1, rfl, ⟨(fun j g0 g1 g2 g3 => fr41 j g0), ⟨cg9, q38⟩, Or.inl ⟨no, rfl, nz, q39, q40⟩⟩, by rw [ht]; exact hP, va_K.moved hW.alike hK, hD⟩, hS.F ht⟩) hS.2.2 dM_different_11

set_option maxHeartbeats 4000000 in
set_option maxRecDepth 100000 in
theorem c_M_most (l : Launch) (D : va_G) (cI cO cJ : ClassId) (N : Nat) (ad : Nat → Nat) (ce : Nat → va_E) (sz : Nat) (hN : 40 ≤ N) (th : Int32) (rs bu tl : Nat) (h0 : ce 34 = .inr (3, [.int (th), .ref (ad 35), .ref (ad 36), .ref (ad 37), .ref (ad 38), .ref (ad 39), .int (nI rs), .int (nI bu), .int (nI tl)])) (mt : Nat → Int32) (h2 : ce 36 = .inl (cI, 4000, .inl mt)) (f : Nat → Nat) (hmt : ∀ i, i < bu → mt i = nI (f i)) (hf : ∀ i, i < bu → f i < 512) (hbu : bu ≤ 4000) (cg9 : Nat → Int32) (h3 : ce 37 = .inl (cI, 512, .inl cg9)) (a b : Int32) : Met l yM_most (.code yM_most bM_most 5 (some .int) :: WA) ({ frames := 2, cells := 0, slots := 0, locals := 45 }) (PM D (TY cI cO cJ) N ad ce sz [.ref (ad 34), .int (a), .int (b)]) (va_Qi (fun (r : Int32) (ce1 : Nat → va_E) => (∀ j, j ≠ 34 → j ≠ 37 → ce1 j = ce j) ∧ (∃ g : Nat → Int32, ce1 37 = .inl (cI, 512, .inl g)) ∧ ((¬ PA a b bu ∧ r = nI 0 ∧ ce1 34 = .inr (3, [.int (nI 1), .ref (ad 35), .ref (ad 36), .ref (ad 37), .ref (ad 38), .ref (ad 39), .int (nI rs), .int (nI bu), .int (nI tl)])) ∨ (∃ u v o, u ≤ v ∧ v ≤ bu ∧ a = nI u ∧ b = nI v ∧ r = bI o ∧ MM f u v 512 o ∧ ce1 34 = .inr (3, [.int (nI 0), .ref (ad 35), .ref (ad 36), .ref (ad 37), .ref (ad 38), .ref (ad 39), .int (nI rs), .int (nI bu), .int (nI tl)])))) (BW D (TY cI cO cJ) N ad (AW N ad sz)) (AW N ad sz)) 0 0 (AW N ad sz) := by
  refine Met.ofW (cc := bM_most) (maxL := 5) (ret := (some .int)) (by decide) rfl ?_
  intro p e s m args below meth c s₁ B hml hv
  obtain ⟨rfl, hsz, hP, hK, hD0⟩ := hv
  have hx := B.exec
  have hb := B.bytes
  have hr := B.returns
  have hA9 : ∀ w ∈ WA, w.before _ s = true := fun w h => atoms_spec (ws := .code yM_most bM_most 5 (some .int) :: WA) B.pre w (List.mem_cons_of_mem _ h)
  have hown : s.vm.findClass RM = some m.cls := findClass_of_methodNamed B.named
  have hlocks := B.notSynchronized
  subst hsz
  have hD := aw_D (sz := s.heap.size) hD0
  generalize hAe : AW N ad s.heap.size = A at hD ⊢
  have hA : ∀ q, s.heap.size ≤ q → A q := fun q h => by rw [← hAe]; exact Or.inr h
  clear hAe hD0
  have hl := lv_entry ([.ref (ad 34), .int (a), .int (b)]) (n := 5) (Nat.le_of_ble_eq_true rfl)
  rw [lg_entry_eq]
  generalize (lg_sl ([.ref (ad 34), .int (a), .int (b)]) ++ List.replicate (5 - (lg_sl ([.ref (ad 34), .int (a), .int (b)])).length) Slot.unset).toArray = ls at hl ⊢
  have hl : lv_has ls 5 [(0, .ref (ad 34)), (1, .int (a)), (2, .int (b))] := hl
  refine st0 (A := A) (fun H locs hS hH => ?_)
  rw [← hH] at hP
  clear hH
  refine lv_aload_n hx hb dM_most_0 rfl (lv_at hl 0 rfl) ?_
  refine lv_iload_n hx hb dM_most_1 rfl (lv_at hl 1 rfl) ?_
  refine lv_iload_n hx hb dM_most_2 rfl (lv_at hl 2 rfl) ?_
  refine lv_iconst (v := nI (bN false)) hx hb dM_most_3 (by decide +kernel) ?_
  refine cvi (va_runV (As := [.int (a), .int (b), .int (nI (bN false))]) (rest := []) ⟨hx, hb, hml, hown, hA9⟩ (c_M_noPart l D cI cO cJ N ad ce H.size hN (th) rs bu tl h0 hbu (a) (b) false) (cwV 3 hA9 (gV mlM_42 miM_noPart msM_noPart mn_M mkM_noPart) rfl rfl rfl (by decide +kernel) ⟨Nat.le_of_ble_eq_true rfl, Nat.le_of_ble_eq_true rfl⟩) ⟨PM_bl, wx_recv hK hP (by omega) h0 rfl, PM_mk hK hP hD⟩ rfl rfl hl.1 rfl (lv_room (Nat.le_of_ble_eq_true rfl)) dM_most_4 ⟨Nat.le_of_ble_eq_true rfl, Nat.le_of_ble_eq_true rfl⟩) hS hD hA (fun r1 ce1 H locs hpost hP hD hS => ?_)
  obtain ⟨nf, ⟨pa, hm, rfl, nz⟩ | ⟨np, rfl, nz⟩⟩ := hpost
  · skip
    have q2 : ce1 36 = .inl (cI, 4000, .inl mt) := (nf 36 (by omega)).trans h2
    have q3 : ce1 37 = .inl (cI, 512, .inl cg9) := (nf 37 (by omega)).trans h3
    have fr4 : ∀ j, j ≠ 34 → ce1 j = ce j := fun j g0 => (nf j g0)
    obtain ⟨u, v, huv, hv, rfl, rfl⟩ := pa
    refine lv_if_eq (tgt := 12) hx hb dM_most_7 (by decide) (fun c7 => ?_) (fun c7 => ?_)
    · skip
      refine lv_aload_n hx hb dM_most_12 rfl (lv_at hl 0 rfl) ?_
      refine lv_iload_n hx hb dM_most_13 rfl (lv_at hl 1 rfl) ?_
      refine lv_iload_n hx hb dM_most_14 rfl (lv_at hl 2 rfl) ?_
      refine cv (va_runV (As := [.int (nI u), .int (nI v)]) (rest := []) ⟨hx, hb, hml, hown, hA9⟩ (c_M_counted l D cI cO cJ N ad ce1 H.size hN (nI 0) rs bu tl nz mt q2 f hmt hf hbu cg9 q3 u v huv hv) (cwV 2 hA9 (gV mlM_46 miM_counted msM_counted mn_M mkM_counted) rfl rfl rfl (by decide +kernel) ⟨Nat.le_of_ble_eq_true rfl, Nat.le_of_ble_eq_true rfl⟩) ⟨PM_bl, wx_recv hK hP (by omega) nz rfl, PM_mk hK hP hD⟩ rfl rfl hl.1 rfl (lv_room (Nat.le_of_ble_eq_true rfl)) dM_most_15 ⟨Nat.le_of_ble_eq_true rfl, Nat.le_of_ble_eq_true rfl⟩) hS hD hA (fun ce2 H locs hpost hP hD hS => ?_)
      obtain ⟨cf, cg, cz, ch⟩ := hpost
      have q6 : ce2 34 = .inr (3, [.int (nI 0), .ref (ad 35), .ref (ad 36), .ref (ad 37), .ref (ad 38), .ref (ad 39), .int (nI rs), .int (nI bu), .int (nI tl)]) := (cf 34 (by omega)).trans nz
      have q7 : ce2 36 = .inl (cI, 4000, .inl mt) := (cf 36 (by omega)).trans q2
      have fr8 : ∀ j, j ≠ 34 → j ≠ 37 → ce2 j = ce j := fun j g0 g1 => (cf j g1).trans (fr4 j g0)
      refine lv_iconst (v := bI none) hx hb dM_most_18 (by decide +kernel) ?_
      refine lv_istore_n (lv' := [(3, .int (bI none)), (0, .ref (ad 34)), (1, .int (nI u)), (2, .int (nI v))]) hx hb dM_most_19 rfl hl (by decide) rfl (fun ls hl => ?_)
      refine lv_iconst (v := nI 0) hx hb dM_most_20 (by decide +kernel) ?_
      refine lv_istore (lv' := [(4, .int (nI 0)), (3, .int (bI none)), (0, .ref (ad 34)), (1, .int (nI u)), (2, .int (nI v))]) hx hb dM_most_21 hl (by decide) rfl (fun ls hl => ?_)
      obtain ⟨w9, hw90⟩ : ∃ z : Nat, (0) = z := ⟨_, rfl⟩
      obtain ⟨o, ho0⟩ : ∃ z : Option Nat, (none) = z := ⟨_, rfl⟩
      replace hl : lv_has ls 5 [(4, .int (nI w9)), (3, .int (bI o)), (0, .ref (ad 34)), (1, .int (nI u)), (2, .int (nI v))] := by subst hw90 ho0; exact lv_sub hl [0, 1, 2, 3, 4] rfl
      have J : w9 ≤ 512 ∧ MM f u v w9 o := by subst hw90 ho0; exact ⟨by omega, MM.z⟩
      clear hw90
      clear ho0
      obtain ⟨k9, hk9⟩ : ∃ z9 : Nat, z9 = 512 - w9 := ⟨_, rfl⟩
      induction k9 using Nat.strongRecOn generalizing w9 o ls with
      | ind k9 ih =>
        obtain ⟨j1, j2⟩ := J
        have el := eq_le f w9 huv
        refine lv_iload hx hb dM_most_23 (lv_at hl 0 rfl) ?_
        refine lv_sipush (v := nI 512) hx hb dM_most_25 (by decide +kernel) ?_
        refine lv_icmp_ge (tgt := 70) hx hb dM_most_28 (by decide) (fun c28 => ?_) (fun c28 => ?_)
        · skip
          have d1 := leN c28
          have hw9 : w9 = 512 := by omega
          refine lv_iload_n hx hb dM_most_70 rfl (lv_at hl 1 rfl) ?_
          exact W.iret (v := (bI o)) hx hb hr (fun t ht hW => ⟨⟨(bI o), ce2, rfl, ⟨(fun j g0 g1 => fr8 j g0 g1), ⟨cg, cz⟩, Or.inr ⟨u, v, o, huv, hv, rfl, rfl, rfl, by rw [← hw9]; exact j2, q6⟩⟩, by rw [ht]; exact hP, va_K.moved hW.alike hK, hD⟩, hS.F ht⟩) hS.2.2 dM_most_71
        · skip
          have d1 := nleN c28
          refine lv_aload_n hx hb dM_most_31 rfl (lv_at hl 2 rfl) ?_
          refine va_get (D := D) (ci := 3) (v := .ref (ad 37)) (C := RM) (T := TM) (N := 9) hx hb hA9 inM hown hK hP 34 (wx_at (by omega) q6) rfl 3 (by decide) (hA9 _ mfM_20) (fun _ h9 => h9) rfl dM_most_32 ?_
          refine lv_iload hx hb dM_most_35 (lv_at hl 0 rfl) ?_
          refine va_iald hx hb hK hP 37 0 (wx_at (by omega) cz) rfl (inN) dM_most_37 ?_
          refine lv_topi (fun z9 ez9 => ?_)
          obtain rfl : z9 = nI (eq f w9 u v) := by rw [ez9, clN]; exact ch w9 (by omega)
          refine lv_if_le (tgt := 64) hx hb dM_most_38 (by decide) (fun c38 => ?_) (fun c38 => ?_)
          · skip
            have z1 : eq f w9 u v = 0 := Nat.le_zero.mp (leN (b := 0) (by rw [nI_0]; exact c38))
            have jn := j2.skip (Or.inl z1)
            refine lv_iinc (v := nI (w9 + 1)) (lv' := [(4, .int (nI (w9 + 1))), (3, .int (bI o)), (0, .ref (ad 34)), (1, .int (nI u)), (2, .int (nI v))]) hx hb dM_most_64 hl (k := 0) rfl (nI_1 w9) (by decide) rfl (fun ls hl => ?_)
            refine lv_goto (tgt := 23) hx hb dM_most_67 (by decide) ?_
            exact ih _ (by omega) (ls := ls) (w9 := w9 + 1) (o := o) (lv_sub hl [0, 1, 2, 3, 4] rfl) (⟨by omega, jn⟩) rfl
          · skip
            have z1 : 0 < eq f w9 u v := nleN (b := 0) (by rw [nI_0]; exact c38)
            refine lv_iload_n hx hb dM_most_41 rfl (lv_at hl 1 rfl) ?_
            refine lv_if_lt (tgt := 61) hx hb dM_most_42 (by decide) (fun c42 => ?_) (fun c42 => ?_)
            · skip
              have jn : MM f u v (w9 + 1) (some w9) := j2.take z1 (fun b9 hb9 => by
                subst hb9
                have bb9 : b9 < w9 := j2.1
                exact absurd c42 (nI_pos (by omega)))
              refine lv_iload hx hb dM_most_61 (lv_at hl 0 rfl) ?_
              refine lv_istore_n (lv' := [(3, .int (nI w9)), (4, .int (nI w9)), (0, .ref (ad 34)), (1, .int (nI u)), (2, .int (nI v))]) hx hb dM_most_63 rfl hl (by decide) rfl (fun ls hl => ?_)
              refine lv_iinc (v := nI (w9 + 1)) (lv' := [(4, .int (nI (w9 + 1))), (3, .int (nI w9)), (0, .ref (ad 34)), (1, .int (nI u)), (2, .int (nI v))]) hx hb dM_most_64 hl (k := 1) rfl (nI_1 w9) (by decide) rfl (fun ls hl => ?_)
              refine lv_goto (tgt := 23) hx hb dM_most_67 (by decide) ?_
              exact ih _ (by omega) (ls := ls) (w9 := w9 + 1) (o := some w9) (lv_sub hl [0, 1, 2, 3, 4] rfl) (⟨by omega, jn⟩) rfl
            · skip
              obtain ⟨b9, rfl⟩ : ∃ b9, o = some b9 := by
                cases o with
                | none => exact absurd (show (-1 : Int32) < 0 by decide +kernel) c42
                | some b9 => exact ⟨b9, rfl⟩
              have hb9 : b9 < w9 := j2.1
              have el2 := eq_le f b9 huv
              change lv_has ls 5 [(4, .int (nI w9)), (3, .int (nI b9)), (0, .ref (ad 34)), (1, .int (nI u)), (2, .int (nI v))] at hl
              refine lv_aload_n hx hb dM_most_45 rfl (lv_at hl 2 rfl) ?_
              refine va_get (D := D) (ci := 3) (v := .ref (ad 37)) (C := RM) (T := TM) (N := 9) hx hb hA9 inM hown hK hP 34 (wx_at (by omega) q6) rfl 3 (by decide) (hA9 _ mfM_20) (fun _ h9 => h9) rfl dM_most_46 ?_
              refine lv_iload hx hb dM_most_49 (lv_at hl 0 rfl) ?_
              refine va_iald hx hb hK hP 37 0 (wx_at (by omega) cz) rfl (inN) dM_most_51 ?_
              refine lv_topi (fun z10 ez10 => ?_)
              obtain rfl : z10 = nI (eq f w9 u v) := by rw [ez10, clN]; exact ch w9 (by omega)
              refine lv_aload_n hx hb dM_most_52 rfl (lv_at hl 2 rfl) ?_
              refine va_get (D := D) (ci := 3) (v := .ref (ad 37)) (C := RM) (T := TM) (N := 9) hx hb hA9 inM hown hK hP 34 (wx_at (by omega) q6) rfl 3 (by decide) (hA9 _ mfM_20) (fun _ h9 => h9) rfl dM_most_53 ?_
              refine lv_iload_n hx hb dM_most_56 rfl (lv_at hl 1 rfl) ?_
              refine va_iald hx hb hK hP 37 0 (wx_at (by omega) cz) rfl (inN) dM_most_57 ?_
              refine lv_topi (fun z11 ez11 => ?_)
              obtain rfl : z11 = nI (eq f b9 u v) := by rw [ez11, clN]; exact ch b9 (by omega)
              refine lv_icmp_le (tgt := 64) hx hb dM_most_58 (by decide) (fun c58 => ?_) (fun c58 => ?_)
              · skip
                have jn := j2.skip (Or.inr ⟨b9, rfl, leN c58⟩)
                refine lv_iinc (v := nI (w9 + 1)) (lv' := [(4, .int (nI (w9 + 1))), (3, .int (nI b9)), (0, .ref (ad 34)), (1, .int (nI u)), (2, .int (nI v))]) hx hb dM_most_64 hl (k := 0) rfl (nI_1 w9) (by decide) rfl (fun ls hl => ?_)
                refine lv_goto (tgt := 23) hx hb dM_most_67 (by decide) ?_
                exact ih _ (by omega) (ls := ls) (w9 := w9 + 1) (o := some b9) (lv_sub hl [0, 1, 2, 3, 4] rfl) (⟨by omega, jn⟩) rfl
              · skip
                have jn : MM f u v (w9 + 1) (some w9) := j2.take z1 (fun b8 hb8 => by cases hb8; exact nleN c58)
                refine lv_iload hx hb dM_most_61 (lv_at hl 0 rfl) ?_
                refine lv_istore_n (lv' := [(3, .int (nI w9)), (4, .int (nI w9)), (0, .ref (ad 34)), (1, .int (nI u)), (2, .int (nI v))]) hx hb dM_most_63 rfl hl (by decide) rfl (fun ls hl => ?_)
                refine lv_iinc (v := nI (w9 + 1)) (lv' := [(4, .int (nI (w9 + 1))), (3, .int (nI w9)), (0, .ref (ad 34)), (1, .int (nI u)), (2, .int (nI v))]) hx hb dM_most_64 hl (k := 1) rfl (nI_1 w9) (by decide) rfl (fun ls hl => ?_)
                refine lv_goto (tgt := 23) hx hb dM_most_67 (by decide) ?_
                exact ih _ (by omega) (ls := ls) (w9 := w9 + 1) (o := some w9) (lv_sub hl [0, 1, 2, 3, 4] rfl) (⟨by omega, jn⟩) rfl
    · skip
      exact absurd (show nI (bN false) = 0 from nI_0) c7
  · skip
    have q12 : ce1 36 = .inl (cI, 4000, .inl mt) := (nf 36 (by omega)).trans h2
    have q13 : ce1 37 = .inl (cI, 512, .inl cg9) := (nf 37 (by omega)).trans h3
    have fr14 : ∀ j, j ≠ 34 → ce1 j = ce j := fun j g0 => (nf j g0)
    have no : ¬ PA a b bu := fun h => np ⟨h, rfl⟩
    refine lv_if_eq (tgt := 12) hx hb dM_most_7 (by decide) (fun c7 => ?_) (fun c7 => ?_)
    · skip
      exact absurd c7 (by decide +kernel)
    · skip
      refine lv_iconst (v := nI 0) hx hb dM_most_10 (by decide +kernel) ?_
      exact W.iret (v := (nI 0)) hx hb hr (fun t ht hW => ⟨⟨(nI 0), ce1, rfl, ⟨(fun j g0 g1 => fr14 j g0), ⟨cg9, q13⟩, Or.inl ⟨no, rfl, nz⟩⟩, by rw [ht]; exact hP, va_K.moved hW.alike hK, hD⟩, hS.F ht⟩) hS.2.2 dM_most_11

set_option maxHeartbeats 4000000 in
set_option maxRecDepth 100000 in
theorem c_M_place (l : Launch) (D : va_G) (cI cO cJ : ClassId) (N : Nat) (ad : Nat → Nat) (ce : Nat → va_E) (sz : Nat) (hN : 40 ≤ N) (th : Int32) (rs bu tl : Nat) (h0 : ce 34 = .inr (3, [.int (th), .ref (ad 35), .ref (ad 36), .ref (ad 37), .ref (ad 38), .ref (ad 39), .int (nI rs), .int (nI bu), .int (nI tl)])) (mt : Nat → Int32) (h2 : ce 36 = .inl (cI, 4000, .inl mt)) (f : Nat → Nat) (hmt : ∀ i, i < bu → mt i = nI (f i)) (hf : ∀ i, i < bu → f i < 512) (hbu : bu ≤ 4000) (x kx : Int32) : Met l yM_place (.code yM_place bM_place 5 (some .int) :: WA) ({ frames := 1, cells := 0, slots := 0, locals := 22 }) (PM D (TY cI cO cJ) N ad ce sz [.ref (ad 34), .int (x), .int (kx)]) (va_Qi (fun (r : Int32) (ce1 : Nat → va_E) => (∀ j, j ≠ 34 → ce1 j = ce j) ∧ (((¬ ∃ y, y < 512 ∧ x = nI y) ∧ r = nI 0 ∧ ce1 34 = .inr (3, [.int (nI 1), .ref (ad 35), .ref (ad 36), .ref (ad 37), .ref (ad 38), .ref (ad 39), .int (nI rs), .int (nI bu), .int (nI tl)])) ∨ (∃ y, y < 512 ∧ x = nI y ∧ (¬ ∃ i, i < bu ∧ f i = y ∧ kx = nI (cn (fun j => decide (f j = y)) i)) ∧ r = nI 0 ∧ ce1 34 = .inr (3, [.int (nI 2), .ref (ad 35), .ref (ad 36), .ref (ad 37), .ref (ad 38), .ref (ad 39), .int (nI rs), .int (nI bu), .int (nI tl)])) ∨ (∃ y i, y < 512 ∧ x = nI y ∧ i < bu ∧ f i = y ∧ kx = nI (cn (fun j => decide (f j = y)) i) ∧ r = nI i ∧ ce1 34 = .inr (3, [.int (nI 0), .ref (ad 35), .ref (ad 36), .ref (ad 37), .ref (ad 38), .ref (ad 39), .int (nI rs), .int (nI bu), .int (nI tl)])))) (BW D (TY cI cO cJ) N ad (AW N ad sz)) (AW N ad sz)) 0 0 (AW N ad sz) := by
  refine Met.ofW (cc := bM_place) (maxL := 5) (ret := (some .int)) (by decide) rfl ?_
  intro p e s m args below meth c s₁ B hml hv
  obtain ⟨rfl, hsz, hP, hK, hD0⟩ := hv
  have hx := B.exec
  have hb := B.bytes
  have hr := B.returns
  have hA9 : ∀ w ∈ WA, w.before _ s = true := fun w h => atoms_spec (ws := .code yM_place bM_place 5 (some .int) :: WA) B.pre w (List.mem_cons_of_mem _ h)
  have hown : s.vm.findClass RM = some m.cls := findClass_of_methodNamed B.named
  have hlocks := B.notSynchronized
  subst hsz
  have hD := aw_D (sz := s.heap.size) hD0
  generalize hAe : AW N ad s.heap.size = A at hD ⊢
  have hA : ∀ q, s.heap.size ≤ q → A q := fun q h => by rw [← hAe]; exact Or.inr h
  clear hAe hD0
  have hl := lv_entry ([.ref (ad 34), .int (x), .int (kx)]) (n := 5) (Nat.le_of_ble_eq_true rfl)
  rw [lg_entry_eq]
  generalize (lg_sl ([.ref (ad 34), .int (x), .int (kx)]) ++ List.replicate (5 - (lg_sl ([.ref (ad 34), .int (x), .int (kx)])).length) Slot.unset).toArray = ls at hl ⊢
  have hl : lv_has ls 5 [(0, .ref (ad 34)), (1, .int (x)), (2, .int (kx))] := hl
  refine st0 (A := A) (fun H locs hS hH => ?_)
  rw [← hH] at hP
  clear hH
  refine lv_aload_n hx hb dM_place_0 rfl (lv_at hl 0 rfl) ?_
  refine lv_iconst (v := nI 0) hx hb dM_place_1 (by decide +kernel) ?_
  refine va_put (D := D) (ci := 3) (v := .int (nI 0)) (ty := .int) (C := RM) (T := TM) (N := 9) hx hb hA9 inM tyM tyM_ok nmM hown hK hP hD hS 34 (wx_at (by omega) h0) rfl 0 (by decide) (hA9 _ mfM_7) (fun _ h9 => h9) rfl (by decide +kernel) rfl rfl (Nat.le_of_ble_eq_true rfl) dM_place_2 (fun H locs hP hD hS => ?_)
  replace hP : va_P D CLS ((wx N ad ce).set 34 (ad 34, .inr (3, [.int (nI 0), .ref (ad 35), .ref (ad 36), .ref (ad 37), .ref (ad 38), .ref (ad 39), .int (nI rs), .int (nI bu), .int (nI tl)]))) H := hP
  replace hD : va_D A ((wx N ad ce).set 34 (ad 34, .inr (3, [.int (nI 0), .ref (ad 35), .ref (ad 36), .ref (ad 37), .ref (ad 38), .ref (ad 39), .int (nI rs), .int (nI bu), .int (nI tl)]))) := hD
  obtain ⟨ce1, hce1⟩ : ∃ z9, z9 = va_up ce 34 (.inr (3, [.int (nI 0), .ref (ad 35), .ref (ad 36), .ref (ad 37), .ref (ad 38), .ref (ad 39), .int (nI rs), .int (nI bu), .int (nI tl)])) := ⟨_, rfl⟩
  rw [wx_set (by omega), ← hce1] at hP hD
  have q1 : ce1 36 = .inl (cI, 4000, .inl mt) := by rw [hce1, va_up_ne _ _ (by omega)]; exact h2
  have q2 : ce1 34 = .inr (3, [.int (nI 0), .ref (ad 35), .ref (ad 36), .ref (ad 37), .ref (ad 38), .ref (ad 39), .int (nI rs), .int (nI bu), .int (nI tl)]) := by rw [hce1, va_up_self]
  have fr3 : ∀ j, j ≠ 34 → ce1 j = ce j := fun j h0 => by rw [hce1, va_up_ne _ _ h0]
  refine lv_aload_n hx hb dM_place_5 rfl (lv_at hl 0 rfl) ?_
  refine lv_iconst (v := nI 1) hx hb dM_place_6 (by decide +kernel) ?_
  refine lv_iload_n hx hb dM_place_7 rfl (lv_at hl 1 rfl) ?_
  refine lv_if_lt (tgt := 18) hx hb dM_place_8 (by decide) (fun c8 => ?_) (fun c8 => ?_)
  · skip
    have no : ¬ ∃ y, y < 512 ∧ x = nI y := fun ⟨y, q1, q2⟩ => neg_n c8 q2
    refine lv_iconst (v := nI (bN true)) hx hb dM_place_18 (by decide +kernel) ?_
    refine lv_goto (tgt := 23) hx hb dM_place_19 (by decide) ?_
    refine cvi (va_runV (As := [.int (nI 1), .int (nI (bN true))]) (rest := []) ⟨hx, hb, hml, hown, hA9⟩ (c_M_refuse l D cI cO cJ N ad ce1 H.size hN (nI 0) rs bu tl q2 1 true) (cwV 2 hA9 (gV mlM_38 miM_refuse msM_refuse mn_M mkM_refuse) rfl rfl rfl (by decide +kernel) ⟨Nat.le_of_ble_eq_true rfl, Nat.le_of_ble_eq_true rfl⟩) ⟨PM_bl, wx_recv hK hP (by omega) q2 rfl, PM_mk hK hP hD⟩ rfl rfl hl.1 rfl (lv_room (Nat.le_of_ble_eq_true rfl)) dM_place_23 ⟨Nat.le_of_ble_eq_true rfl, Nat.le_of_ble_eq_true rfl⟩) hS hD hA (fun r4 ce2 H locs hpost hP hD hS => ?_)
    obtain ⟨rfl, rf, rz⟩ := hpost
    have q5 : ce2 34 = .inr (3, [.int (nI 1), .ref (ad 35), .ref (ad 36), .ref (ad 37), .ref (ad 38), .ref (ad 39), .int (nI rs), .int (nI bu), .int (nI tl)]) := rz
    have q6 : ce2 36 = .inl (cI, 4000, .inl mt) := (rf 36 (by omega)).trans q1
    have fr7 : ∀ j, j ≠ 34 → ce2 j = ce j := fun j g0 => (rf j g0).trans (fr3 j g0)
    refine lv_if_eq (tgt := 31) hx hb dM_place_26 (by decide) (fun c26 => ?_) (fun c26 => ?_)
    · skip
      exact absurd c26 (by decide +kernel)
    · skip
      refine lv_iconst (v := nI 0) hx hb dM_place_29 (by decide +kernel) ?_
      exact W.iret (v := (nI 0)) hx hb hr (fun t ht hW => ⟨⟨(nI 0), ce2, rfl, ⟨(fun j g0 => fr7 j g0), Or.inl ⟨no, rfl, q5⟩⟩, by rw [ht]; exact hP, va_K.moved hW.alike hK, hD⟩, hS.F ht⟩) hS.2.2 dM_place_30
  · skip
    refine lv_iload_n hx hb dM_place_11 rfl (lv_at hl 1 rfl) ?_
    refine lv_sipush (v := nI 511) hx hb dM_place_12 (by decide +kernel) ?_
    refine lv_icmp_le (tgt := 22) hx hb dM_place_15 (by decide) (fun c15 => ?_) (fun c15 => ?_)
    · skip
      obtain ⟨y, hy, rfl⟩ := rg_mk c8 c15
      refine lv_iconst (v := nI (bN false)) hx hb dM_place_22 (by decide +kernel) ?_
      refine cvi (va_runV (As := [.int (nI 1), .int (nI (bN false))]) (rest := []) ⟨hx, hb, hml, hown, hA9⟩ (c_M_refuse l D cI cO cJ N ad ce1 H.size hN (nI 0) rs bu tl q2 1 false) (cwV 2 hA9 (gV mlM_38 miM_refuse msM_refuse mn_M mkM_refuse) rfl rfl rfl (by decide +kernel) ⟨Nat.le_of_ble_eq_true rfl, Nat.le_of_ble_eq_true rfl⟩) ⟨PM_bl, wx_recv hK hP (by omega) q2 rfl, PM_mk hK hP hD⟩ rfl rfl hl.1 rfl (lv_room (Nat.le_of_ble_eq_true rfl)) dM_place_23 ⟨Nat.le_of_ble_eq_true rfl, Nat.le_of_ble_eq_true rfl⟩) hS hD hA (fun r8 ce2 H locs hpost hP hD hS => ?_)
      obtain ⟨rfl, rf, rz⟩ := hpost
      have q9 : ce2 34 = .inr (3, [.int (nI 0), .ref (ad 35), .ref (ad 36), .ref (ad 37), .ref (ad 38), .ref (ad 39), .int (nI rs), .int (nI bu), .int (nI tl)]) := rz
      have q10 : ce2 36 = .inl (cI, 4000, .inl mt) := (rf 36 (by omega)).trans q1
      have fr11 : ∀ j, j ≠ 34 → ce2 j = ce j := fun j g0 => (rf j g0).trans (fr3 j g0)
      refine lv_if_eq (tgt := 31) hx hb dM_place_26 (by decide) (fun c26 => ?_) (fun c26 => ?_)
      · skip
        refine lv_iconst (v := nI 0) hx hb dM_place_31 (by decide +kernel) ?_
        refine lv_istore_n (lv' := [(3, .int (nI 0)), (0, .ref (ad 34)), (1, .int (nI y)), (2, .int (kx))]) hx hb dM_place_32 rfl hl (by decide) rfl (fun ls hl => ?_)
        refine lv_iconst (v := nI 0) hx hb dM_place_33 (by decide +kernel) ?_
        refine lv_istore (lv' := [(4, .int (nI 0)), (3, .int (nI 0)), (0, .ref (ad 34)), (1, .int (nI y)), (2, .int (kx))]) hx hb dM_place_34 hl (by decide) rfl (fun ls hl => ?_)
        obtain ⟨i, hi0⟩ : ∃ z : Nat, (0) = z := ⟨_, rfl⟩
        replace hl : lv_has ls 5 [(4, .int (nI i)), (3, .int (nI (cn (fun j => decide (f j = y)) i))), (0, .ref (ad 34)), (1, .int (nI y)), (2, .int (kx))] := by subst hi0; exact lv_sub hl [0, 1, 2, 3, 4] rfl
        have J : i ≤ bu ∧ ∀ t, t < i → f t = y → kx ≠ nI (cn (fun j => decide (f j = y)) t) := by subst hi0; exact ⟨by omega, fun t ht => absurd ht (by omega)⟩
        clear hi0
        obtain ⟨k9, hk9⟩ : ∃ z9 : Nat, z9 = bu - i := ⟨_, rfl⟩
        induction k9 using Nat.strongRecOn generalizing i ls with
        | ind k9 ih =>
          obtain ⟨j1, j2⟩ := J
          have cle := cn_le (fun j => decide (f j = y)) i
          refine lv_iload hx hb dM_place_36 (lv_at hl 0 rfl) ?_
          refine lv_aload_n hx hb dM_place_38 rfl (lv_at hl 2 rfl) ?_
          refine va_get (D := D) (ci := 3) (v := .int (nI bu)) (C := RM) (T := TM) (N := 9) hx hb hA9 inM hown hK hP 34 (wx_at (by omega) q9) rfl 7 (by decide) (hA9 _ mfM_32) (fun _ h9 => h9) rfl dM_place_39 ?_
          refine lv_icmp_ge (tgt := 76) hx hb dM_place_42 (by decide) (fun c42 => ?_) (fun c42 => ?_)
          · skip
            have d2 := leN c42
            have hib : i = bu := by omega
            refine lv_aload_n hx hb dM_place_76 rfl (lv_at hl 2 rfl) ?_
            refine lv_iconst (v := nI 2) hx hb dM_place_77 (by decide +kernel) ?_
            refine lv_iconst (v := nI (bN true)) hx hb dM_place_78 (by decide +kernel) ?_
            refine cvi (va_runV (As := [.int (nI 2), .int (nI (bN true))]) (rest := []) ⟨hx, hb, hml, hown, hA9⟩ (c_M_refuse l D cI cO cJ N ad ce2 H.size hN (nI 0) rs bu tl q9 2 true) (cwV 2 hA9 (gV mlM_38 miM_refuse msM_refuse mn_M mkM_refuse) rfl rfl rfl (by decide +kernel) ⟨Nat.le_of_ble_eq_true rfl, Nat.le_of_ble_eq_true rfl⟩) ⟨PM_bl, wx_recv hK hP (by omega) q9 rfl, PM_mk hK hP hD⟩ rfl rfl hl.1 rfl (lv_room (Nat.le_of_ble_eq_true rfl)) dM_place_79 ⟨Nat.le_of_ble_eq_true rfl, Nat.le_of_ble_eq_true rfl⟩) hS hD hA (fun r12 ce3 H locs hpost hP hD hS => ?_)
            obtain ⟨rfl, rf, rz⟩ := hpost
            have q13 : ce3 34 = .inr (3, [.int (nI 2), .ref (ad 35), .ref (ad 36), .ref (ad 37), .ref (ad 38), .ref (ad 39), .int (nI rs), .int (nI bu), .int (nI tl)]) := rz
            have q14 : ce3 36 = .inl (cI, 4000, .inl mt) := (rf 36 (by omega)).trans q10
            have fr15 : ∀ j, j ≠ 34 → ce3 j = ce j := fun j g0 => (rf j g0).trans (fr11 j g0)
            refine lv_pop hx hb dM_place_82 rfl ?_
            refine lv_iconst (v := nI 0) hx hb dM_place_83 (by decide +kernel) ?_
            exact W.iret (v := (nI 0)) hx hb hr (fun t ht hW => ⟨⟨(nI 0), ce3, rfl, ⟨(fun j g0 => fr15 j g0), Or.inr (Or.inl ⟨y, by omega, rfl, fun ⟨t, q1, q2, q3⟩ => j2 t (by omega) q2 q3, rfl, q13⟩)⟩, by rw [ht]; exact hP, va_K.moved hW.alike hK, hD⟩, hS.F ht⟩) hS.2.2 dM_place_84
          · skip
            have d2 := nleN c42
            have hfk := hf i (by omega)
            refine lv_aload_n hx hb dM_place_45 rfl (lv_at hl 2 rfl) ?_
            refine va_get (D := D) (ci := 3) (v := .ref (ad 36)) (C := RM) (T := TM) (N := 9) hx hb hA9 inM hown hK hP 34 (wx_at (by omega) q9) rfl 2 (by decide) (hA9 _ mfM_17) (fun _ h9 => h9) rfl dM_place_46 ?_
            refine lv_iload hx hb dM_place_49 (lv_at hl 0 rfl) ?_
            refine va_iald hx hb hK hP 36 0 (wx_at (by omega) q10) rfl (inN) dM_place_51 ?_
            refine lv_topi (fun z16 ez16 => ?_)
            obtain rfl : z16 = nI (f i) := by rw [ez16, clN]; exact hmt i (by omega)
            refine lv_iload_n hx hb dM_place_52 rfl (lv_at hl 3 rfl) ?_
            refine lv_icmp_eq (tgt := 59) hx hb dM_place_53 (by decide) (fun c53 => ?_) (fun c53 => ?_)
            · skip
              have he := eqN c53
              refine lv_iload_n hx hb dM_place_59 rfl (lv_at hl 1 rfl) ?_
              refine lv_iload_n hx hb dM_place_60 rfl (lv_at hl 4 rfl) ?_
              refine lv_icmp_ne (tgt := 67) hx hb dM_place_61 (by decide) (fun c61 => ?_) (fun c61 => ?_)
              · skip
                have jn : ∀ t, t < i + 1 → f t = y → kx ≠ nI (cn (fun j => decide (f j = y)) t) := fun t ht ft => if h9 : t = i then (by rw [h9]; exact Ne.symm c61) else j2 t (by omega) ft
                refine lv_iinc (v := nI (cn (fun j => decide (f j = y)) (i + 1))) (lv' := [(3, .int (nI (cn (fun j => decide (f j = y)) (i + 1)))), (4, .int (nI i)), (0, .ref (ad 34)), (1, .int (nI y)), (2, .int (kx))]) hx hb dM_place_67 hl (k := 1) rfl ((nI_1 _).trans (congrArg nI (cn_t (p := fun j => decide (f j = y)) (n := i) (by simpa using he)).symm)) (by decide) rfl (fun ls hl => ?_)
                refine lv_iinc (v := nI (i + 1)) (lv' := [(4, .int (nI (i + 1))), (3, .int (nI (cn (fun j => decide (f j = y)) (i + 1)))), (0, .ref (ad 34)), (1, .int (nI y)), (2, .int (kx))]) hx hb dM_place_70 hl (k := 1) rfl (nI_1 i) (by decide) rfl (fun ls hl => ?_)
                refine lv_goto (tgt := 36) hx hb dM_place_73 (by decide) ?_
                exact ih _ (by omega) (ls := ls) (i := i + 1) (lv_sub hl [0, 1, 2, 3, 4] rfl) (⟨by omega, jn⟩) rfl
              · skip
                refine lv_iload hx hb dM_place_64 (lv_at hl 0 rfl) ?_
                exact W.iret (v := (nI i)) hx hb hr (fun t ht hW => ⟨⟨(nI i), ce2, rfl, ⟨(fun j g0 => fr11 j g0), Or.inr (Or.inr ⟨y, i, by omega, rfl, d2, he, c61.symm, rfl, q9⟩)⟩, by rw [ht]; exact hP, va_K.moved hW.alike hK, hD⟩, hS.F ht⟩) hS.2.2 dM_place_66
            · skip
              have he := neN c53
              rw [← cn_f (p := fun j => decide (f j = y)) (n := i) (by simpa using he)] at hl
              have jn : ∀ t, t < i + 1 → f t = y → kx ≠ nI (cn (fun j => decide (f j = y)) t) := fun t ht ft => if h9 : t = i then absurd (h9 ▸ ft) he else j2 t (by omega) ft
              refine lv_goto (tgt := 70) hx hb dM_place_56 (by decide) ?_
              refine lv_iinc (v := nI (i + 1)) (lv' := [(4, .int (nI (i + 1))), (3, .int (nI (cn (fun j => decide (f j = y)) (i + 1)))), (0, .ref (ad 34)), (1, .int (nI y)), (2, .int (kx))]) hx hb dM_place_70 hl (k := 0) rfl (nI_1 i) (by decide) rfl (fun ls hl => ?_)
              refine lv_goto (tgt := 36) hx hb dM_place_73 (by decide) ?_
              exact ih _ (by omega) (ls := ls) (i := i + 1) (lv_sub hl [0, 1, 2, 3, 4] rfl) (⟨by omega, jn⟩) rfl
      · skip
        exact absurd (show nI (bN false) = 0 from nI_0) c26
    · skip
      have no : ¬ ∃ y, y < 512 ∧ x = nI y := fun ⟨y, q1, q2⟩ => c15 (by rw [q2]; exact nI_le (by omega) (by omega))
      refine lv_iconst (v := nI (bN true)) hx hb dM_place_18 (by decide +kernel) ?_
      refine lv_goto (tgt := 23) hx hb dM_place_19 (by decide) ?_
      refine cvi (va_runV (As := [.int (nI 1), .int (nI (bN true))]) (rest := []) ⟨hx, hb, hml, hown, hA9⟩ (c_M_refuse l D cI cO cJ N ad ce1 H.size hN (nI 0) rs bu tl q2 1 true) (cwV 2 hA9 (gV mlM_38 miM_refuse msM_refuse mn_M mkM_refuse) rfl rfl rfl (by decide +kernel) ⟨Nat.le_of_ble_eq_true rfl, Nat.le_of_ble_eq_true rfl⟩) ⟨PM_bl, wx_recv hK hP (by omega) q2 rfl, PM_mk hK hP hD⟩ rfl rfl hl.1 rfl (lv_room (Nat.le_of_ble_eq_true rfl)) dM_place_23 ⟨Nat.le_of_ble_eq_true rfl, Nat.le_of_ble_eq_true rfl⟩) hS hD hA (fun r17 ce2 H locs hpost hP hD hS => ?_)
      obtain ⟨rfl, rf, rz⟩ := hpost
      have q18 : ce2 34 = .inr (3, [.int (nI 1), .ref (ad 35), .ref (ad 36), .ref (ad 37), .ref (ad 38), .ref (ad 39), .int (nI rs), .int (nI bu), .int (nI tl)]) := rz
      have q19 : ce2 36 = .inl (cI, 4000, .inl mt) := (rf 36 (by omega)).trans q1
      have fr20 : ∀ j, j ≠ 34 → ce2 j = ce j := fun j g0 => (rf j g0).trans (fr3 j g0)
      refine lv_if_eq (tgt := 31) hx hb dM_place_26 (by decide) (fun c26 => ?_) (fun c26 => ?_)
      · skip
        exact absurd c26 (by decide +kernel)
      · skip
        refine lv_iconst (v := nI 0) hx hb dM_place_29 (by decide +kernel) ?_
        exact W.iret (v := (nI 0)) hx hb hr (fun t ht hW => ⟨⟨(nI 0), ce2, rfl, ⟨(fun j g0 => fr20 j g0), Or.inl ⟨no, rfl, q18⟩⟩, by rw [ht]; exact hP, va_K.moved hW.alike hK, hD⟩, hS.F ht⟩) hS.2.2 dM_place_30
