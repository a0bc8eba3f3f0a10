set_option maxHeartbeats 4000000 in
set_option maxRecDepth 100000 in
theorem c_T_fill (l : Launch) (D : va_G) (cI cO cJ : ClassId) (N : Nat) (ad : Nat → Nat) (ce : Nat → va_E) (sz : Nat) (hN : 33 ≤ N) (os0 : Nat → Nat → Nat) (n0 : Nat) (hT : TR cI cO ad ce os0 n0) (n : Nat) (hn : n ≤ 4000) (row o4 o5 : Nat → Int32) (h1 : ce 1 = .inl (cI, 4000, .inl row)) (hr5 : A5 row) (t4 : ce 4 = .inl (cI, 4000, .inl o4)) (h4 : A5 o4) (t5 : ce 5 = .inl (cI, 4000, .inl o5)) (h5 : A5 o5) : Met l yT_fill (.code yT_fill bT_fill 4 none :: WA) ({ frames := 2, cells := 0, slots := 0, locals := 85 }) (PM D (TY cI cO cJ) N ad ce sz [.ref (ad 2), .ref (ad 1), .int (nI n)]) (va_Qv (fun (ce1 : Nat → va_E) => ∃ os, TR cI cO ad ce1 os n ∧ WM (vl row) n os ∧ (∃ g, ce1 4 = .inl (cI, 4000, .inl g) ∧ A5 g) ∧ (∃ g, ce1 5 = .inl (cI, 4000, .inl g) ∧ A5 g) ∧ ∀ j, j < 2 ∨ j = 3 ∨ 33 ≤ j → ce1 j = ce j) (BW D (TY cI cO cJ) N ad (AW N ad sz)) (AW N ad sz)) 0 0 (AW N ad sz) := by
  refine Met.ofW (cc := bT_fill) (maxL := 4) (ret := none) (by decide) rfl ?_
  intro p e s m args below meth c s₁ B hml hv
  obtain ⟨rfl, hsz, hP, hK, hD0⟩ := hv
  have hx := B.exec
  have hb := B.bytes
  have hr := B.returns
  have hA9 : ∀ w ∈ WA, w.before _ s = true := fun w h => atoms_spec (ws := .code yT_fill bT_fill 4 none :: WA) B.pre w (List.mem_cons_of_mem _ h)
  have hown : s.vm.findClass RT = some m.cls := findClass_of_methodNamed B.named
  have hlocks := B.notSynchronized
  subst hsz
  have hD := aw_D (sz := s.heap.size) hD0
  generalize hAe : AW N ad s.heap.size = A at hD ⊢
  have hA : ∀ q, s.heap.size ≤ q → A q := fun q h => by rw [← hAe]; exact Or.inr h
  clear hAe hD0
  have hl := lv_entry ([.ref (ad 2), .ref (ad 1), .int (nI n)]) (n := 4) (Nat.le_of_ble_eq_true rfl)
  rw [lg_entry_eq]
  generalize (lg_sl ([.ref (ad 2), .ref (ad 1), .int (nI n)]) ++ List.replicate (4 - (lg_sl ([.ref (ad 2), .ref (ad 1), .int (nI n)])).length) Slot.unset).toArray = ls at hl ⊢
  have hl : lv_has ls 4 [(0, .ref (ad 2)), (1, .ref (ad 1)), (2, .int (nI n))] := hl
  refine st0 (A := A) (fun H locs hS hH => ?_)
  rw [← hH] at hP
  clear hH
  obtain ⟨t2, ⟨lv, t3, tlv⟩, tL, hn0⟩ := id hT
  refine lv_aload_n hx hb dT_fill_0 rfl (lv_at hl 0 rfl) ?_
  refine lv_iload_n hx hb dT_fill_1 rfl (lv_at hl 2 rfl) ?_
  refine va_put (D := D) (ci := 1) (v := .int (nI n)) (ty := .int) (C := RT) (T := TT) (N := 4) hx hb hA9 inT tyT tyT_ok nmT hown hK hP hD hS 2 (wx_at (by omega) t2) rfl 3 (by decide) (hA9 _ mfT_25) (fun _ h9 => h9) rfl (by decide +kernel) rfl rfl (Nat.le_of_ble_eq_true rfl) dT_fill_2 (fun H locs hP hD hS => ?_)
  replace hP : va_P D CLS ((wx N ad ce).set 2 (ad 2, .inr (1, [.ref (ad 3), .ref (ad 4), .ref (ad 5), .int (nI n)]))) H := hP
  replace hD : va_D A ((wx N ad ce).set 2 (ad 2, .inr (1, [.ref (ad 3), .ref (ad 4), .ref (ad 5), .int (nI n)]))) := hD
  obtain ⟨ce1, hce1⟩ : ∃ z9, z9 = va_up ce 2 (.inr (1, [.ref (ad 3), .ref (ad 4), .ref (ad 5), .int (nI n)])) := ⟨_, rfl⟩
  rw [wx_set (by omega), ← hce1] at hP hD
  have q1 : ce1 1 = .inl (cI, 4000, .inl row) := by rw [hce1, va_up_ne _ _ (by omega)]; exact h1
  have q2 : ce1 3 = .inl (cO, 9, .inr (.inr (.inr (.inr lv)))) := by rw [hce1, va_up_ne _ _ (by omega)]; exact t3
  have q3 : ce1 4 = .inl (cI, 4000, .inl o4) := by rw [hce1, va_up_ne _ _ (by omega)]; exact t4
  have q4 : ce1 5 = .inl (cI, 4000, .inl o5) := by rw [hce1, va_up_ne _ _ (by omega)]; exact t5
  have q5 : ce1 2 = .inr (1, [.ref (ad 3), .ref (ad 4), .ref (ad 5), .int (nI n)]) := by rw [hce1, va_up_self]
  have fr6 : ∀ j, j ≠ 2 → ce1 j = ce j := fun j h0 => by rw [hce1, va_up_ne _ _ h0]
  refine lv_aload_n hx hb dT_fill_5 rfl (lv_at hl 1 rfl) ?_
  refine lv_iconst (v := nI 0) hx hb dT_fill_6 (by decide +kernel) ?_
  refine lv_aload_n hx hb dT_fill_7 rfl (lv_at hl 0 rfl) ?_
  refine va_get (D := D) (ci := 1) (v := .ref (ad 4)) (C := RT) (T := TT) (N := 4) hx hb hA9 inT hown hK hP 2 (wx_at (by omega) q5) rfl 1 (by decide) (hA9 _ mfT_17) (fun _ h9 => h9) rfl dT_fill_8 ?_
  refine lv_iconst (v := nI 0) hx hb dT_fill_11 (by decide +kernel) ?_
  refine lv_iload_n hx hb dT_fill_12 rfl (lv_at hl 2 rfl) ?_
  refine va_copyi (ty := .int) hx hb (hml.trans hl.1.symm) hown (hA9 _ mlT_29) (hA9 _ mnatarraycopyName) (hA9 _ mtarraycopyName) (hA9 _ mn_sys) hK hP hD hS 1 4 0 0 (wx_at (by omega) q1) (wx_at (by omega) q3) rfl rfl rfl (nI_pos (by omega)) (nI_pos (by omega)) (nI_pos (by omega)) (by rw [clN, clN]; omega) (by rw [clN, clN]; omega) (fun _ _ => rfl) (Nat.le_of_ble_eq_true rfl) (by decide +kernel) dT_fill_13 (fun H locs hP hD hS => ?_)
  rw [clN (a := 0), clN (a := n)] at hP hD
  obtain ⟨ce2, hce2⟩ : ∃ z9, z9 = va_up ce1 4 (.inl (cI, 4000, .inl (va_cpy row o4 0 0 n))) := ⟨_, rfl⟩
  rw [wx_set (by omega), ← hce2] at hP hD
  have q7 : ce2 1 = .inl (cI, 4000, .inl row) := by rw [hce2, va_up_ne _ _ (by omega)]; exact q1
  have q8 : ce2 2 = .inr (1, [.ref (ad 3), .ref (ad 4), .ref (ad 5), .int (nI n)]) := by rw [hce2, va_up_ne _ _ (by omega)]; exact q5
  have q9 : ce2 3 = .inl (cO, 9, .inr (.inr (.inr (.inr lv)))) := by rw [hce2, va_up_ne _ _ (by omega)]; exact q2
  have q10 : ce2 5 = .inl (cI, 4000, .inl o5) := by rw [hce2, va_up_ne _ _ (by omega)]; exact q4
  have q11 : ce2 4 = .inl (cI, 4000, .inl (va_cpy row o4 0 0 n)) := by rw [hce2, va_up_self]
  have fr12 : ∀ j, j ≠ 2 → j ≠ 4 → ce2 j = ce j := fun j h0 h1 => by rw [hce2, va_up_ne _ _ h1]; exact fr6 j h0
  refine lv_iconst (v := nI 0) hx hb dT_fill_16 (by decide +kernel) ?_
  refine lv_istore_n (lv' := [(3, .int (nI 0)), (0, .ref (ad 2)), (1, .ref (ad 1)), (2, .int (nI n))]) hx hb dT_fill_17 rfl hl (by decide) rfl (fun ls hl => ?_)
  obtain ⟨cl, hcl0⟩ : ∃ z : Nat → va_E, ce2 = z := ⟨_, rfl⟩
  obtain ⟨d, hd0⟩ : ∃ z : Nat, (0) = z := ⟨_, rfl⟩
  obtain ⟨os, hos0⟩ : ∃ z : Nat → Nat → Nat, (fun _ => vl (va_cpy row o4 0 0 n)) = z := ⟨_, rfl⟩
  obtain ⟨g, hg0⟩ : ∃ z : Nat → Int32, (va_cpy row o4 0 0 n) = z := ⟨_, rfl⟩
  obtain ⟨h, hh0⟩ : ∃ z : Nat → Int32, (o5) = z := ⟨_, rfl⟩
  replace hl : lv_has ls 4 [(3, .int (nI d)), (0, .ref (ad 2)), (1, .ref (ad 1)), (2, .int (nI n))] := by subst hd0 hos0 hg0 hh0; exact lv_sub hl [0, 1, 2, 3] rfl
  have J : (∀ j, j < 2 ∨ j = 3 ∨ 33 ≤ j → cl j = ce j) ∧ cl 2 = .inr (1, [.ref (ad 3), .ref (ad 4), .ref (ad 5), .int (nI n)]) ∧ (∀ t, t < d → LV cI ad cl (6 + 3 * t) (bs os n t) n) ∧ (∀ t, d ≤ t → t < 9 → ∃ (z1 z2 : Int32) (w r : Nat → Int32), cl (6 + 3 * t) = .inr (0, [.ref (ad (6 + 3 * t + 1)), .ref (ad (6 + 3 * t + 2)), .int (z1), .int (z2)]) ∧ cl (6 + 3 * t + 1) = .inl (cI, 126, .inl w) ∧ cl (6 + 3 * t + 2) = .inl (cI, 126, .inl r)) ∧ cl 4 = .inl (cI, 4000, .inl g) ∧ A5 g ∧ cl 5 = .inl (cI, 4000, .inl h) ∧ A5 h ∧ (∀ t, t < d → PT (os t) (os (t + 1)) (bs os n t) n) ∧ (∀ i, i < n → os 0 i = vl row i) ∧ os d = vl g ∧ d ≤ 9 := by
    subst hcl0 hd0 hos0 hg0 hh0
    exact ⟨fun j hj => fr12 j (by omega) (by omega), q8, fun t ht => absurd ht (by omega), fun t _ ht => (by obtain ⟨w9, r9, x0, x1, x2, -⟩ := tL t ht; exact ⟨_, _, w9, r9, (fr12 _ (by omega) (by omega)).trans x0, (fr12 _ (by omega) (by omega)).trans x1, (fr12 _ (by omega) (by omega)).trans x2⟩), q11, hr5.c h4, (fr12 5 (by omega) (by omega)).trans t5, h5, fun t ht => absurd ht (by omega), fun i hi => (by show (va_cpy row o4 0 0 n i).toNatClampNeg = (row i).toNatClampNeg; rw [sb_cpy0 hi]), rfl, by omega⟩
  rw [hcl0] at hP hD
  clear hcl0 hd0 hos0 hg0 hh0
  obtain ⟨k9, hk9⟩ : ∃ z9 : Nat, z9 = 9 - d := ⟨_, rfl⟩
  induction k9 using Nat.strongRecOn generalizing d os g h cl H locs ls with
  | ind k9 ih =>
    obtain ⟨f1, f2, f3, f4, f5, f6, f7, f8, f9, f10, f11, f12⟩ := J
    refine lv_iload_n hx hb dT_fill_18 rfl (lv_at hl 0 rfl) ?_
    refine lv_bipush (v := nI 9) hx hb dT_fill_19 (by decide +kernel) ?_
    refine lv_icmp_ge (tgt := 56) hx hb dT_fill_21 (by decide) (fun c21 => ?_) (fun c21 => ?_)
    · skip
      have d1 := leN c21
      have hd9 : d = 9 := by omega
      subst hd9
      exact W.vret hx hb hr (fun t ht hW => ⟨⟨cl, rfl, ⟨os, ⟨f2, ⟨lv, (f1 3 (by omega)).trans t3, tlv⟩, f3, hn⟩, ⟨f10, f9⟩, ⟨g, f5, f6⟩, ⟨h, f7, f8⟩, f1⟩, by rw [ht]; exact hP, va_K.moved hW.alike hK, hD⟩, hS.F ht⟩) hS.2.2 dT_fill_56
    · skip
      have d1 := nleN c21
      refine lv_aload_n hx hb dT_fill_24 rfl (lv_at hl 1 rfl) ?_
      refine va_get (D := D) (ci := 1) (v := .ref (ad 3)) (C := RT) (T := TT) (N := 4) hx hb hA9 inT hown hK hP 2 (wx_at (by omega) f2) rfl 0 (by decide) (hA9 _ mfT_11) (fun _ h9 => h9) rfl dT_fill_25 ?_
      obtain ⟨z1, z2, w9, r9, x0, x1, x2⟩ := f4 d (Nat.le_refl d) (by omega)
      refine lv_iload_n hx hb dT_fill_28 rfl (lv_at hl 0 rfl) ?_
      refine va_aldq (C := RV) hx hb hK hP 3 1 (wx_at (by omega) ((f1 3 (by omega)).trans t3)) rfl (inN) dT_fill_29 ?_
      refine W.eq (g2 := F0 m 30 ls [.ref (ad (6 + 3 * d))]) (by rw [clN, tlv d (by omega)]; rfl) ?_
      refine lv_aload_n hx hb dT_fill_30 rfl (lv_at hl 1 rfl) ?_
      refine va_get (D := D) (ci := 1) (v := .ref (ad 4)) (C := RT) (T := TT) (N := 4) hx hb hA9 inT hown hK hP 2 (wx_at (by omega) f2) rfl 1 (by decide) (hA9 _ mfT_17) (fun _ h9 => h9) rfl dT_fill_31 ?_
      refine lv_iload_n hx hb dT_fill_34 rfl (lv_at hl 3 rfl) ?_
      refine lv_iload_n hx hb dT_fill_35 rfl (lv_at hl 0 rfl) ?_
      refine vp_callSi (va_runS (As := [.int (nI d)]) (rest := [.int (nI n), .ref (ad 4), .ref (ad (6 + 3 * d))]) ⟨hx, hb, hml, hown, hA9⟩ (c_T_shiftOf l d (by omega)) (va_cwS 1 hA9 (gS mlT_35 mtT_shiftOf mn_T mkT_shiftOf) rfl rfl rfl (by decide +kernel) ⟨Nat.le_of_ble_eq_true rfl, Nat.le_of_ble_eq_true rfl⟩) ⟨P0_bl, P0_mk⟩ rfl rfl hl.1 rfl (lv_room (Nat.le_of_ble_eq_true rfl)) dT_fill_36 ⟨Nat.le_of_ble_eq_true rfl, Nat.le_of_ble_eq_true rfl⟩).run (fun r13 hr13 => ?_)
      obtain rfl : r13 = nI (8 - d) := hr13
      refine cv (va_runV (As := [.ref (ad 4), .int (nI n), .int (nI (8 - d))]) (rest := []) ⟨hx, hb, hml, hown, hA9⟩ (c_V_fill l D cI cO cJ N ad cl H.size (6 + 3 * d) 4 (by omega) (by omega) (by omega) n hn (8 - d) (by omega) g f6 w9 r9 z1 z2 x0 x1 x2 f5) (cwV 3 hA9 (gV mlT_39 miV_fill msV_fill mn_V mkV_fill) rfl rfl rfl (by decide +kernel) ⟨Nat.le_of_ble_eq_true rfl, Nat.le_of_ble_eq_true rfl⟩) ⟨PM_bl, wx_recv hK hP (by omega) x0 rfl, PM_mk hK hP hD⟩ rfl rfl hl.1 rfl (lv_room (Nat.le_of_ble_eq_true rfl)) dT_fill_39 ⟨Nat.le_of_ble_eq_true rfl, Nat.le_of_ble_eq_true rfl⟩) hS hD hA (fun ce3 H locs hpost hP hD hS => ?_)
      obtain ⟨pf, pv⟩ := hpost
      have y2 : ce3 2 = .inr (1, [.ref (ad 3), .ref (ad 4), .ref (ad 5), .int (nI n)]) := (pf 2 (by omega) (by omega) (by omega)).trans f2
      have y4 : ce3 4 = .inl (cI, 4000, .inl g) := (pf 4 (by omega) (by omega) (by omega)).trans f5
      have y5 : ce3 5 = .inl (cI, 4000, .inl h) := (pf 5 (by omega) (by omega) (by omega)).trans f7
      refine lv_aload_n hx hb dT_fill_42 rfl (lv_at hl 1 rfl) ?_
      refine lv_iload_n hx hb dT_fill_43 rfl (lv_at hl 0 rfl) ?_
      refine vp_callSi (va_runS (As := [.int (nI d)]) (rest := [.ref (ad 2)]) ⟨hx, hb, hml, hown, hA9⟩ (c_T_shiftOf l d (by omega)) (va_cwS 1 hA9 (gS mlT_35 mtT_shiftOf mn_T mkT_shiftOf) rfl rfl rfl (by decide +kernel) ⟨Nat.le_of_ble_eq_true rfl, Nat.le_of_ble_eq_true rfl⟩) ⟨P0_bl, P0_mk⟩ rfl rfl hl.1 rfl (lv_room (Nat.le_of_ble_eq_true rfl)) dT_fill_44 ⟨Nat.le_of_ble_eq_true rfl, Nat.le_of_ble_eq_true rfl⟩).run (fun r15 hr15 => ?_)
      obtain rfl : r15 = nI (8 - d) := hr15
      refine cv (va_runV (As := [.int (nI (8 - d))]) (rest := []) ⟨hx, hb, hml, hown, hA9⟩ (c_T_putZerosInFront l D cI cO cJ N ad ce3 H.size hN n hn (8 - d) (by omega) g h f6 f8 y2 y4 y5) (cwV 1 hA9 (gV mlT_43 miT_putZerosInFront msT_putZerosInFront mn_T mkT_putZerosInFront) rfl rfl rfl (by decide +kernel) ⟨Nat.le_of_ble_eq_true rfl, Nat.le_of_ble_eq_true rfl⟩) ⟨PM_bl, wx_recv hK hP (by omega) y2 rfl, PM_mk hK hP hD⟩ rfl rfl hl.1 rfl (lv_room (Nat.le_of_ble_eq_true rfl)) dT_fill_47 ⟨Nat.le_of_ble_eq_true rfl, Nat.le_of_ble_eq_true rfl⟩) hS hD hA (fun ce4 H locs hpost hP hD hS => ?_)
      obtain ⟨qf, g1, h1, qg, qh, qa, qb, qp⟩ := hpost
      refine lv_iinc (v := nI (d + 1)) (lv' := [(3, .int (nI (d + 1))), (0, .ref (ad 2)), (1, .ref (ad 1)), (2, .int (nI n))]) hx hb dT_fill_50 hl (k := 0) rfl (nI_1 d) (by decide) rfl (fun ls hl => ?_)
      refine lv_goto (tgt := 18) hx hb dT_fill_53 (by decide) ?_
      obtain ⟨os1, ho1⟩ : ∃ z : Nat → Nat → Nat, z = fun t => if t = d + 1 then vl g1 else os t := ⟨_, rfl⟩
      have oe : ∀ t, t ≤ d → os1 t = os t := fun t ht => by rw [ho1]; exact if_neg (by omega)
      have on : os1 (d + 1) = vl g1 := by rw [ho1]; exact if_pos rfl
      have be : ∀ t, t ≤ d → bs os1 n t = bs os n t := fun t ht => by unfold bs; rw [oe t ht]
      have bd : bs os n d = bw g n (8 - d) := by unfold bs bw; rw [f11]
      have kp : ∀ j, j ≠ 4 → j ≠ 5 → j ≠ 6 + 3 * d → j ≠ 6 + 3 * d + 1 → j ≠ 6 + 3 * d + 2 → ce4 j = cl j := fun j a1 a2 a3 a4 a5 => (qf j a1 a2).trans (pf j a3 a4 a5)
      have J1 : (∀ j, j < 2 ∨ j = 3 ∨ 33 ≤ j → ce4 j = ce j) := fun j hj => (kp j (by omega) (by omega) (by omega) (by omega) (by omega)).trans (f1 j hj)
      have J3 : ∀ t, t < d + 1 → LV cI ad ce4 (6 + 3 * t) (bs os1 n t) n := fun t ht => by
        rw [be t (by omega)]
        by_cases h9 : t = d
        · rw [h9, bd]; exact pv.cg (qf _ (by omega) (by omega)) (qf _ (by omega) (by omega)) (qf _ (by omega) (by omega))
        · exact (f3 t (by omega)).cg (kp _ (by omega) (by omega) (by omega) (by omega) (by omega)) (kp _ (by omega) (by omega) (by omega) (by omega) (by omega)) (kp _ (by omega) (by omega) (by omega) (by omega) (by omega))
      have J4 : ∀ t, d + 1 ≤ t → t < 9 → ∃ (z1 z2 : Int32) (w r : Nat → Int32), ce4 (6 + 3 * t) = .inr (0, [.ref (ad (6 + 3 * t + 1)), .ref (ad (6 + 3 * t + 2)), .int (z1), .int (z2)]) ∧ ce4 (6 + 3 * t + 1) = .inl (cI, 126, .inl w) ∧ ce4 (6 + 3 * t + 2) = .inl (cI, 126, .inl r) := fun t h1 h2 => by
        obtain ⟨u1, u2, w8, r8, v0, v1, v2⟩ := f4 t (by omega) h2
        exact ⟨u1, u2, w8, r8, (kp _ (by omega) (by omega) (by omega) (by omega) (by omega)).trans v0, (kp _ (by omega) (by omega) (by omega) (by omega) (by omega)).trans v1, (kp _ (by omega) (by omega) (by omega) (by omega) (by omega)).trans v2⟩
      have J9 : ∀ t, t < d + 1 → PT (os1 t) (os1 (t + 1)) (bs os1 n t) n := fun t ht => by
        rw [be t (by omega), oe t (by omega)]
        by_cases h9 : t = d
        · rw [h9, on, bd, f11]; exact qp
        · rw [oe (t + 1) (by omega)]; exact f9 t (by omega)
      exact ih _ (by omega) (ls := ls) (cl := ce4) (H := H) (locs := locs) (d := d + 1) (os := os1) (g := g1) (h := h1) (hP := hP) (hD := hD) (hS := hS) (hl := lv_sub hl [0, 1, 2, 3] rfl) (J := ⟨J1, (qf 2 (by omega) (by omega)).trans y2, J3, J4, qg, qa, qh, qb, J9, fun i hi => by rw [oe 0 (by omega)]; exact f10 i hi, on, by omega⟩) (hk9 := rfl)

set_option maxHeartbeats 4000000 in
set_option maxRecDepth 100000 in
theorem c_L_build (l : Launch) (D : va_G) (cI cO cJ : ClassId) (N : Nat) (ad : Nat → Nat) (ce : Nat → va_E) (sz : Nat) (hN : 34 ≤ N) (os : Nat → Nat → Nat) (n : Nat) (hT : TR cI cO ad ce os n) (rl gc : Nat) (hrl : rl ≤ 4000) (h0 : ce 0 = .inr (2, [.ref (ad 1), .ref (ad 2), .ref (ad 33), .int (nI rl), .int (nI gc)])) (row o4 o5 : Nat → Int32) (h1 : ce 1 = .inl (cI, 4000, .inl row)) (hr5 : A5 row) (t4 : ce 4 = .inl (cI, 4000, .inl o4)) (h4 : A5 o4) (t5 : ce 5 = .inl (cI, 4000, .inl o5)) (h5 : A5 o5) : Met l yL_build (.code yL_build bL_build 1 (some .int) :: WA) ({ frames := 3, cells := 0, slots := 0, locals := 108 }) (PM D (TY cI cO cJ) N ad ce sz [.ref (ad 0)]) (va_Qi (fun (r : Int32) (ce1 : Nat → va_E) => r = nI rl ∧ ∃ os, TR cI cO ad ce1 os rl ∧ WM (vl row) rl os ∧ (∃ g, ce1 4 = .inl (cI, 4000, .inl g) ∧ A5 g) ∧ (∃ g, ce1 5 = .inl (cI, 4000, .inl g) ∧ A5 g) ∧ ∀ j, j < 2 ∨ j = 3 ∨ 33 ≤ j → ce1 j = ce j) (BW D (TY cI cO cJ) N ad (AW N ad sz)) (AW N ad sz)) 0 0 (AW N ad sz) := by
  refine Met.ofW (cc := bL_build) (maxL := 1) (ret := (some .int)) (by decide) rfl ?_
  intro p e s m args below meth c s₁ B hml hv
  obtain ⟨rfl, hsz, hP, hK, hD0⟩ := hv
  have hx := B.exec
  have hb := B.bytes
  have hr := B.returns
  have hA9 : ∀ w ∈ WA, w.before _ s = true := fun w h => atoms_spec (ws := .code yL_build bL_build 1 (some .int) :: WA) B.pre w (List.mem_cons_of_mem _ h)
  have hown : s.vm.findClass RL = some m.cls := findClass_of_methodNamed B.named
  have hlocks := B.notSynchronized
  subst hsz
  have hD := aw_D (sz := s.heap.size) hD0
  generalize hAe : AW N ad s.heap.size = A at hD ⊢
  have hA : ∀ q, s.heap.size ≤ q → A q := fun q h => by rw [← hAe]; exact Or.inr h
  clear hAe hD0
  have hl := lv_entry ([.ref (ad 0)]) (n := 1) (Nat.le_of_ble_eq_true rfl)
  rw [lg_entry_eq]
  generalize (lg_sl ([.ref (ad 0)]) ++ List.replicate (1 - (lg_sl ([.ref (ad 0)])).length) Slot.unset).toArray = ls at hl ⊢
  have hl : lv_has ls 1 [(0, .ref (ad 0))] := hl
  refine st0 (A := A) (fun H locs hS hH => ?_)
  rw [← hH] at hP
  clear hH
  refine lv_aload_n hx hb dL_build_0 rfl (lv_at hl 0 rfl) ?_
  refine va_get (D := D) (ci := 2) (v := .ref (ad 2)) (C := RL) (T := TL) (N := 5) hx hb hA9 inL hown hK hP 0 (wx_at (by omega) h0) rfl 1 (by decide) (hA9 _ mfL_16) (fun _ h9 => h9) rfl dL_build_1 ?_
  refine lv_aload_n hx hb dL_build_4 rfl (lv_at hl 0 rfl) ?_
  refine va_get (D := D) (ci := 2) (v := .ref (ad 1)) (C := RL) (T := TL) (N := 5) hx hb hA9 inL hown hK hP 0 (wx_at (by omega) h0) rfl 0 (by decide) (hA9 _ mfL_9) (fun _ h9 => h9) rfl dL_build_5 ?_
  refine lv_aload_n hx hb dL_build_8 rfl (lv_at hl 0 rfl) ?_
  refine va_get (D := D) (ci := 2) (v := .int (nI rl)) (C := RL) (T := TL) (N := 5) hx hb hA9 inL hown hK hP 0 (wx_at (by omega) h0) rfl 3 (by decide) (hA9 _ mfL_23) (fun _ h9 => h9) rfl dL_build_9 ?_
  refine cv (va_runV (As := [.ref (ad 1), .int (nI rl)]) (rest := []) ⟨hx, hb, hml, hown, hA9⟩ (c_T_fill l D cI cO cJ N ad ce H.size (by omega) os n hT rl hrl row o4 o5 h1 hr5 t4 h4 t5 h5) (cwV 2 hA9 (gV mlL_42 miT_fill msT_fill mn_T mkT_fill) rfl rfl rfl (by decide +kernel) ⟨Nat.le_of_ble_eq_true rfl, Nat.le_of_ble_eq_true rfl⟩) ⟨PM_bl, wx_recv hK hP (by omega) hT.1 rfl, PM_mk hK hP hD⟩ rfl rfl hl.1 rfl (lv_room (Nat.le_of_ble_eq_true rfl)) dL_build_12 ⟨Nat.le_of_ble_eq_true rfl, Nat.le_of_ble_eq_true rfl⟩) hS hD hA (fun ce1 H locs hpost hP hD hS => ?_)
  obtain ⟨os1, bT, bW, b4, b5, bf⟩ := hpost
  have y0 := (bf 0 (by omega)).trans h0
  refine lv_aload_n hx hb dL_build_15 rfl (lv_at hl 0 rfl) ?_
  refine va_get (D := D) (ci := 2) (v := .ref (ad 2)) (C := RL) (T := TL) (N := 5) hx hb hA9 inL hown hK hP 0 (wx_at (by omega) y0) rfl 1 (by decide) (hA9 _ mfL_16) (fun _ h9 => h9) rfl dL_build_16 ?_
  refine vp_callSi (va_runV (As := []) (rest := []) ⟨hx, hb, hml, hown, hA9⟩ (c_T_size l D cI cO cJ N ad ce1 (by omega) os1 rl bT) (cwV 0 hA9 (gV mlL_46 miT_size msT_size mn_T mkT_size) rfl rfl rfl (by decide +kernel) ⟨Nat.le_of_ble_eq_true rfl, Nat.le_of_ble_eq_true rfl⟩) ⟨PR_bl, wx_recv hK hP (by omega) bT.1 rfl, PR_mk hK hP⟩ rfl rfl hl.1 rfl (lv_room (Nat.le_of_ble_eq_true rfl)) dL_build_19 ⟨Nat.le_of_ble_eq_true rfl, Nat.le_of_ble_eq_true rfl⟩).run (fun r2 hr2 => ?_)
  obtain rfl : r2 = nI rl := hr2
  exact W.iret (v := (nI rl)) hx hb hr (fun t ht hW => ⟨⟨(nI rl), ce1, rfl, ⟨rfl, os1, bT, bW, b4, b5, bf⟩, by rw [ht]; exact hP, va_K.moved hW.alike hK, hD⟩, hS.F ht⟩) hS.2.2 dL_build_22
