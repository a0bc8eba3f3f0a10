set_option maxHeartbeats 4000000 in
set_option maxRecDepth 100000 in
theorem c_F_fill (l : Launch) (D : va_G) (cI cO cJ : ClassId) (N : Nat) (ad : Nat → Nat) (ce : Nat → va_E) (sz : Nat) (k : Nat) (hk : k < N) (n : Nat) (hn : n ≤ 4000) (g : Nat → Int32) (h0 : ce k = .inl (cI, n, .inl g)) (x : Int32) : Met l yF_fill (.code yF_fill bF_fill 4 none :: WA) ({ frames := 0, cells := 0, slots := 0, locals := 0 }) (PM D (TY cI cO cJ) N ad ce sz [.ref (ad k), .int (x)]) (va_Qv (fun (ce1 : Nat → va_E) => (∀ j, j ≠ k → ce1 j = ce j) ∧ ∃ g1 : Nat → Int32, ce1 k = .inl (cI, n, .inl g1) ∧ ∀ i, i < n → g1 i = x) (BW D (TY cI cO cJ) N ad (AW N ad sz)) (AW N ad sz)) 0 0 (AW N ad sz) := by
  refine Met.ofW (cc := bF_fill) (maxL := 4) (ret := none) (by decide) rfl ?_
  intro p e s m args below meth c s₁ B hml hv
  obtain ⟨rfl, hsz, hP, hK, hD0⟩ := hv
  have hx := B.exec
  have hb := B.bytes
  have hr := B.returns
  have hA9 : ∀ w ∈ WA, w.before _ s = true := fun w h => atoms_spec (ws := .code yF_fill bF_fill 4 none :: WA) B.pre w (List.mem_cons_of_mem _ h)
  have hown : s.vm.findClass RF = some m.cls := findClass_of_methodNamed B.named
  have hlocks := B.notSynchronized
  subst hsz
  have hD := aw_D (sz := s.heap.size) hD0
  generalize hAe : AW N ad s.heap.size = A at hD ⊢
  have hA : ∀ q, s.heap.size ≤ q → A q := fun q h => by rw [← hAe]; exact Or.inr h
  clear hAe hD0
  have hl := lv_entry ([.ref (ad k), .int (x)]) (n := 4) (Nat.le_of_ble_eq_true rfl)
  rw [lg_entry_eq]
  generalize (lg_sl ([.ref (ad k), .int (x)]) ++ List.replicate (4 - (lg_sl ([.ref (ad k), .int (x)])).length) Slot.unset).toArray = ls at hl ⊢
  have hl : lv_has ls 4 [(0, .ref (ad k)), (1, .int (x))] := hl
  refine st0 (A := A) (fun H locs hS hH => ?_)
  rw [← hH] at hP
  clear hH
  refine lv_iconst (v := nI 0) hx hb dF_fill_0 (by decide +kernel) ?_
  refine lv_istore_n (lv' := [(2, .int (nI 0)), (0, .ref (ad k)), (1, .int (x))]) hx hb dF_fill_1 rfl hl (by decide) rfl (fun ls hl => ?_)
  refine lv_aload_n hx hb dF_fill_2 rfl (lv_at hl 1 rfl) ?_
  refine va_alen (v := nI n) hx hb hK hP k 0 (wx_at (by omega) h0) rfl rfl dF_fill_3 ?_
  refine lv_istore_n (lv' := [(3, .int (nI n)), (2, .int (nI 0)), (0, .ref (ad k)), (1, .int (x))]) hx hb dF_fill_4 rfl hl (by decide) rfl (fun ls hl => ?_)
  obtain ⟨cl, hcl0⟩ : ∃ z : Nat → va_E, ce = z := ⟨_, rfl⟩
  obtain ⟨i, hi0⟩ : ∃ z : Nat, (0) = z := ⟨_, rfl⟩
  obtain ⟨g1, hg10⟩ : ∃ z : Nat → Int32, (g) = z := ⟨_, rfl⟩
  replace hl : lv_has ls 4 [(3, .int (nI n)), (2, .int (nI i)), (0, .ref (ad k)), (1, .int (x))] := by subst hi0 hg10; exact lv_sub hl [0, 1, 2, 3] rfl
  have J : (∀ j, j ≠ k → cl j = ce j) ∧ cl k = .inl (cI, n, .inl g1) ∧ i ≤ n ∧ ∀ j, j < i → g1 j = x := by
    subst hcl0 hi0 hg10
    exact ⟨(fun j g0 => rfl), h0, ⟨by omega, fun j h => absurd h (by omega)⟩⟩
  rw [hcl0] at hP hD
  clear hcl0 hi0 hg10
  obtain ⟨k9, hk9⟩ : ∃ z9 : Nat, z9 = n - i := ⟨_, rfl⟩
  induction k9 using Nat.strongRecOn generalizing i g1 cl H locs ls with
  | ind k9 ih =>
    obtain ⟨fr2, q1, JJ⟩ := J
    obtain ⟨j1, j2⟩ := JJ
    refine lv_iload_n hx hb dF_fill_5 rfl (lv_at hl 1 rfl) ?_
    refine lv_iload_n hx hb dF_fill_6 rfl (lv_at hl 0 rfl) ?_
    refine lv_icmp_ge (tgt := 20) hx hb dF_fill_7 (by decide) (fun c7 => ?_) (fun c7 => ?_)
    · skip
      have d1 := leN c7
      exact W.vret hx hb hr (fun t ht hW => ⟨⟨cl, rfl, ⟨fr2, g1, q1, fun j hj => j2 j (by omega)⟩, by rw [ht]; exact hP, va_K.moved hW.alike hK, hD⟩, hS.F ht⟩) hS.2.2 dF_fill_20
    · skip
      have d1 := nleN c7
      refine lv_aload_n hx hb dF_fill_10 rfl (lv_at hl 2 rfl) ?_
      refine lv_iload_n hx hb dF_fill_11 rfl (lv_at hl 1 rfl) ?_
      refine lv_iload_n hx hb dF_fill_12 rfl (lv_at hl 3 rfl) ?_
      refine va_iast hx hb hK hP hD hS k 0 (wx_at (by omega) q1) rfl (inN) dF_fill_13 (fun H locs hP hD hS => ?_)
      rw [clN (a := i)] at hP hD
      obtain ⟨ce1, hce1⟩ : ∃ z9, z9 = va_up cl k (.inl (cI, n, .inl (upd g1 i (x)))) := ⟨_, rfl⟩
      rw [wx_set (by omega), ← hce1] at hP hD
      have q3 : ce1 k = .inl (cI, n, .inl (upd g1 i (x))) := by rw [hce1, va_up_self]
      have fr4 : ∀ j, j ≠ k → ce1 j = ce j := fun j h0 => by rw [hce1, va_up_ne _ _ h0]; exact fr2 j h0
      refine lv_iinc (v := nI (i + 1)) (lv' := [(2, .int (nI (i + 1))), (3, .int (nI n)), (0, .ref (ad k)), (1, .int (x))]) hx hb dF_fill_14 hl (k := 1) rfl (nI_1 i) (by decide) rfl (fun ls hl => ?_)
      refine lv_goto (tgt := 5) hx hb dF_fill_17 (by decide) ?_
      exact ih _ (by omega) (ls := ls) (cl := ce1) (H := H) (locs := locs) (i := i + 1) (g1 := upd g1 i x) (hP := hP) (hD := hD) (hS := hS) (hl := lv_sub hl [1, 0, 2, 3] rfl) (J := ⟨(fun j g0 => fr4 j g0), q3, ⟨by omega, fun j hj => by unfold upd; split; rfl; exact j2 j (by omega)⟩⟩) (hk9 := rfl)

set_option maxHeartbeats 4000000 in
set_option maxRecDepth 100000 in
theorem c_V_fill (l : Launch) (D : va_G) (cI cO cJ : ClassId) (N : Nat) (ad : Nat → Nat) (ce : Nat → va_E) (sz : Nat) (k ka : Nat) (hk : k + 2 < N) (hka : ka < N) (hne : ka ≠ k ∧ ka ≠ k + 1 ∧ ka ≠ k + 2) (n : Nat) (hn : n ≤ 4000) (sh : Nat) (hs : sh < 9) (g : Nat → Int32) (hg : A5 g) (w0 r0 : Nat → Int32) (z1 z2 : Int32) (h0 : ce k = .inr (0, [.ref (ad (k + 1)), .ref (ad (k + 2)), .int (z1), .int (z2)])) (h1 : ce (k + 1) = .inl (cI, 126, .inl w0)) (h2 : ce (k + 2) = .inl (cI, 126, .inl r0)) (h3 : ce ka = .inl (cI, 4000, .inl g)) : Met l yV_fill (.code yV_fill bV_fill 6 none :: WA) ({ frames := 1, cells := 0, slots := 0, locals := 23 }) (PM D (TY cI cO cJ) N ad ce sz [.ref (ad k), .ref (ad ka), .int (nI n), .int (nI sh)]) (va_Qv (fun (ce1 : Nat → va_E) => (∀ j, j ≠ k → j ≠ k + 1 → j ≠ k + 2 → ce1 j = ce j) ∧ LV cI ad ce1 k (bw g n sh) n) (BW D (TY cI cO cJ) N ad (AW N ad sz)) (AW N ad sz)) 0 0 (AW N ad sz) := by
  refine Met.ofW (cc := bV_fill) (maxL := 6) (ret := none) (by decide) rfl ?_
  intro p e s m args below meth c s₁ B hml hv
  obtain ⟨rfl, hsz, hP, hK, hD0⟩ := hv
  have hx := B.exec
  have hb := B.bytes
  have hr := B.returns
  have hA9 : ∀ w ∈ WA, w.before _ s = true := fun w h => atoms_spec (ws := .code yV_fill bV_fill 6 none :: WA) B.pre w (List.mem_cons_of_mem _ h)
  have hown : s.vm.findClass RV = some m.cls := findClass_of_methodNamed B.named
  have hlocks := B.notSynchronized
  subst hsz
  have hD := aw_D (sz := s.heap.size) hD0
  generalize hAe : AW N ad s.heap.size = A at hD ⊢
  have hA : ∀ q, s.heap.size ≤ q → A q := fun q h => by rw [← hAe]; exact Or.inr h
  clear hAe hD0
  have hl := lv_entry ([.ref (ad k), .ref (ad ka), .int (nI n), .int (nI sh)]) (n := 6) (Nat.le_of_ble_eq_true rfl)
  rw [lg_entry_eq]
  generalize (lg_sl ([.ref (ad k), .ref (ad ka), .int (nI n), .int (nI sh)]) ++ List.replicate (6 - (lg_sl ([.ref (ad k), .ref (ad ka), .int (nI n), .int (nI sh)])).length) Slot.unset).toArray = ls at hl ⊢
  have hl : lv_has ls 6 [(0, .ref (ad k)), (1, .ref (ad ka)), (2, .int (nI n)), (3, .int (nI sh))] := hl
  refine st0 (A := A) (fun H locs hS hH => ?_)
  rw [← hH] at hP
  clear hH
  refine lv_aload_n hx hb dV_fill_0 rfl (lv_at hl 0 rfl) ?_
  refine va_get (D := D) (ci := 0) (v := .ref (ad (k + 1))) (C := RV) (T := TV) (N := 4) hx hb hA9 inV hown hK hP k (wx_at (by omega) h0) rfl 0 (by decide) (hA9 _ mfV_9) (fun _ h9 => h9) rfl dV_fill_1 ?_
  refine lv_iconst (v := nI 0) hx hb dV_fill_4 (by decide +kernel) ?_
  refine cv (va_runS (As := [.ref (ad (k + 1)), .int (nI 0)]) (rest := []) ⟨hx, hb, hml, hown, hA9⟩ (c_F_fill l D cI cO cJ N ad ce H.size (k + 1) (by omega) 126 (by omega) w0 h1 (nI 0)) (va_cwS 2 hA9 (gS mlV_25 mtF_fill mn_F mkF_fill) rfl rfl rfl (by decide +kernel) ⟨Nat.le_of_ble_eq_true rfl, Nat.le_of_ble_eq_true rfl⟩) ⟨PM_bl, PM_mk hK hP hD⟩ rfl rfl hl.1 rfl (lv_room (Nat.le_of_ble_eq_true rfl)) dV_fill_5 ⟨Nat.le_of_ble_eq_true rfl, Nat.le_of_ble_eq_true rfl⟩) hS hD hA (fun ce1 H locs hpost hP hD hS => ?_)
  obtain ⟨pf, w1, pw, pz⟩ := hpost
  have q2 : ce1 k = .inr (0, [.ref (ad (k + 1)), .ref (ad (k + 2)), .int (z1), .int (z2)]) := (pf k (by omega)).trans h0
  have q3 : ce1 (k + 2) = .inl (cI, 126, .inl r0) := (pf (k + 2) (by omega)).trans h2
  have q4 : ce1 ka = .inl (cI, 4000, .inl g) := (pf ka (by omega)).trans h3
  have fr5 : ∀ j, j ≠ (k + 1) → ce1 j = ce j := fun j g0 => (pf j g0)
  refine lv_iconst (v := nI 0) hx hb dV_fill_8 (by decide +kernel) ?_
  refine lv_istore (lv' := [(4, .int (nI 0)), (0, .ref (ad k)), (1, .ref (ad ka)), (2, .int (nI n)), (3, .int (nI sh))]) hx hb dV_fill_9 hl (by decide) rfl (fun ls hl => ?_)
  obtain ⟨cl, hcl0⟩ : ∃ z : Nat → va_E, ce1 = z := ⟨_, rfl⟩
  obtain ⟨i, hi0⟩ : ∃ z : Nat, (0) = z := ⟨_, rfl⟩
  obtain ⟨w2, hw20⟩ : ∃ z : Nat → Int32, (w1) = z := ⟨_, rfl⟩
  replace hl : lv_has ls 6 [(4, .int (nI i)), (0, .ref (ad k)), (1, .ref (ad ka)), (2, .int (nI n)), (3, .int (nI sh))] := by subst hi0 hw20; exact lv_sub hl [0, 1, 2, 3, 4] rfl
  have J : (∀ j, j ≠ (k + 1) → cl j = ce j) ∧ cl (k + 1) = .inl (cI, 126, .inl w2) ∧ i ≤ n ∧ ∀ q b, q < 126 → b < 32 → bt (w2 q) b = (decide (32 * q + b < i) && tb (vl g (32 * q + b)) sh) := by
    subst hcl0 hi0 hw20
    exact ⟨(fun j g0 => fr5 j g0), pw, ⟨by omega, fun q b hq hb => by rw [pz q hq, nI_0, b_0]; simp⟩⟩
  rw [hcl0] at hP hD
  clear hcl0 hi0 hw20
  obtain ⟨k9, hk9⟩ : ∃ z9 : Nat, z9 = n - i := ⟨_, rfl⟩
  induction k9 using Nat.strongRecOn generalizing i w2 cl H locs ls with
  | ind k9 ih =>
    obtain ⟨fr7, q6, JJ⟩ := J
    obtain ⟨j1, j2⟩ := JJ
    refine lv_iload hx hb dV_fill_11 (lv_at hl 0 rfl) ?_
    refine lv_iload_n hx hb dV_fill_13 rfl (lv_at hl 3 rfl) ?_
    refine lv_icmp_ge (tgt := 50) hx hb dV_fill_14 (by decide) (fun c14 => ?_) (fun c14 => ?_)
    · skip
      have d1 := leN c14
      have hin9 : i = n := by omega
      have hw : ∀ q b, q < 126 → b < 32 → bt (w2 q) b = bw g n sh (32 * q + b) := fun q b hq hb => by rw [j2 q b hq hb, hin9]; rfl
      refine lv_iconst (v := nI 0) hx hb dV_fill_50 (by decide +kernel) ?_
      refine lv_istore (lv' := [(4, .int (nI 0)), (0, .ref (ad k)), (1, .ref (ad ka)), (2, .int (nI n)), (3, .int (nI sh))]) hx hb dV_fill_51 hl (by decide) rfl (fun ls hl => ?_)
      refine lv_iconst (v := nI 0) hx hb dV_fill_53 (by decide +kernel) ?_
      refine lv_istore (lv' := [(5, .int (nI 0)), (4, .int (nI 0)), (0, .ref (ad k)), (1, .ref (ad ka)), (2, .int (nI n)), (3, .int (nI sh))]) hx hb dV_fill_54 hl (by decide) rfl (fun ls hl => ?_)
      obtain ⟨cl, hcl0⟩ : ∃ z : Nat → va_E, cl = z := ⟨_, rfl⟩
      obtain ⟨q, hq0⟩ : ∃ z : Nat, (0) = z := ⟨_, rfl⟩
      obtain ⟨r2, hr20⟩ : ∃ z : Nat → Int32, (r0) = z := ⟨_, rfl⟩
      replace hl : lv_has ls 6 [(5, .int (nI q)), (4, .int (nI (cn (bw g n sh) (32 * q)))), (0, .ref (ad k)), (1, .ref (ad ka)), (2, .int (nI n)), (3, .int (nI sh))] := by subst hq0 hr20; exact lv_sub hl [0, 1, 2, 3, 4, 5] rfl
      have J : (∀ j, j ≠ (k + 1) → j ≠ (k + 2) → cl j = ce j) ∧ cl (k + 1) = .inl (cI, 126, .inl w2) ∧ cl (k + 2) = .inl (cI, 126, .inl r2) ∧ q ≤ 126 ∧ ∀ t, t < q → r2 t = nI (cn (bw g n sh) (32 * t)) := by
        subst hcl0 hq0 hr20
        exact ⟨(fun j g0 g1 => fr7 j g0), q6, ((fr7 (k + 2) (by omega)).trans h2), ⟨by omega, fun t h => absurd h (by omega)⟩⟩
      rw [hcl0] at hP hD
      clear hcl0 hq0 hr20
      obtain ⟨k9, hk9⟩ : ∃ z9 : Nat, z9 = 126 - q := ⟨_, rfl⟩
      induction k9 using Nat.strongRecOn generalizing q r2 cl H locs ls with
      | ind k9 ih =>
        obtain ⟨fr10, q8, q9, JJ⟩ := J
        obtain ⟨j3, j4⟩ := JJ
        refine lv_iload hx hb dV_fill_56 (lv_at hl 0 rfl) ?_
        refine lv_bipush (v := nI 126) hx hb dV_fill_58 (by decide +kernel) ?_
        refine lv_icmp_ge (tgt := 93) hx hb dV_fill_60 (by decide) (fun c60 => ?_) (fun c60 => ?_)
        · skip
          have d2 := leN c60
          have hq9 : q = 126 := by omega
          refine lv_aload_n hx hb dV_fill_93 rfl (lv_at hl 2 rfl) ?_
          refine lv_iload_n hx hb dV_fill_94 rfl (lv_at hl 4 rfl) ?_
          refine va_put (D := D) (ci := 0) (v := .int (nI n)) (ty := .int) (C := RV) (T := TV) (N := 4) hx hb hA9 inV tyV tyV_ok nmV hown hK hP hD hS k (wx_at (by omega) ((fr10 k (by omega) (by omega)).trans h0)) rfl 2 (by decide) (hA9 _ mfV_18) (fun _ h9 => h9) rfl (by decide +kernel) rfl rfl (Nat.le_of_ble_eq_true rfl) dV_fill_95 (fun H locs hP hD hS => ?_)
          replace hP : va_P D CLS ((wx N ad cl).set k (ad k, .inr (0, [.ref (ad (k + 1)), .ref (ad (k + 2)), .int (nI n), .int (z2)]))) H := hP
          replace hD : va_D A ((wx N ad cl).set k (ad k, .inr (0, [.ref (ad (k + 1)), .ref (ad (k + 2)), .int (nI n), .int (z2)]))) := hD
          obtain ⟨ce2, hce2⟩ : ∃ z9, z9 = va_up cl k (.inr (0, [.ref (ad (k + 1)), .ref (ad (k + 2)), .int (nI n), .int (z2)])) := ⟨_, rfl⟩
          rw [wx_set (by omega), ← hce2] at hP hD
          have q11 : ce2 (k + 1) = .inl (cI, 126, .inl w2) := by rw [hce2, va_up_ne _ _ (by omega)]; exact q8
          have q12 : ce2 (k + 2) = .inl (cI, 126, .inl r2) := by rw [hce2, va_up_ne _ _ (by omega)]; exact q9
          have q13 : ce2 ka = .inl (cI, 4000, .inl g) := by rw [hce2, va_up_ne _ _ (by omega)]; exact ((fr10 ka (by omega) (by omega)).trans h3)
          have q14 : ce2 k = .inr (0, [.ref (ad (k + 1)), .ref (ad (k + 2)), .int (nI n), .int (z2)]) := by rw [hce2, va_up_self]
          have fr15 : ∀ j, j ≠ (k + 1) → j ≠ (k + 2) → j ≠ k → ce2 j = ce j := fun j h0 h1 h2 => by rw [hce2, va_up_ne _ _ h2]; exact fr10 j h0 h1
          refine lv_aload_n hx hb dV_fill_98 rfl (lv_at hl 2 rfl) ?_
          refine lv_iload_n hx hb dV_fill_99 rfl (lv_at hl 4 rfl) ?_
          refine lv_iload hx hb dV_fill_100 (lv_at hl 1 rfl) ?_
          refine lv_isub hx hb dV_fill_102 ?_
          refine lv_topi (fun z16 ez16 => ?_)
          obtain rfl : z16 = nI (n - cn (bw g n sh) n) := by rw [ez16]; rw [hq9, show 32 * 126 = 4032 from rfl, bw_end hn]; exact pk_sub (cn_le _ _)
          refine va_put (D := D) (ci := 0) (v := .int (nI (n - cn (bw g n sh) n))) (ty := .int) (C := RV) (T := TV) (N := 4) hx hb hA9 inV tyV tyV_ok nmV hown hK hP hD hS k (wx_at (by omega) q14) rfl 3 (by decide) (hA9 _ mfV_22) (fun _ h9 => h9) rfl (by decide +kernel) rfl rfl (Nat.le_of_ble_eq_true rfl) dV_fill_103 (fun H locs hP hD hS => ?_)
          replace hP : va_P D CLS ((wx N ad ce2).set k (ad k, .inr (0, [.ref (ad (k + 1)), .ref (ad (k + 2)), .int (nI n), .int (nI (n - cn (bw g n sh) n))]))) H := hP
          replace hD : va_D A ((wx N ad ce2).set k (ad k, .inr (0, [.ref (ad (k + 1)), .ref (ad (k + 2)), .int (nI n), .int (nI (n - cn (bw g n sh) n))]))) := hD
          obtain ⟨ce3, hce3⟩ : ∃ z9, z9 = va_up ce2 k (.inr (0, [.ref (ad (k + 1)), .ref (ad (k + 2)), .int (nI n), .int (nI (n - cn (bw g n sh) n))])) := ⟨_, rfl⟩
          rw [wx_set (by omega), ← hce3] at hP hD
          have q17 : ce3 (k + 1) = .inl (cI, 126, .inl w2) := by rw [hce3, va_up_ne _ _ (by omega)]; exact q11
          have q18 : ce3 (k + 2) = .inl (cI, 126, .inl r2) := by rw [hce3, va_up_ne _ _ (by omega)]; exact q12
          have q19 : ce3 ka = .inl (cI, 4000, .inl g) := by rw [hce3, va_up_ne _ _ (by omega)]; exact q13
          have q20 : ce3 k = .inr (0, [.ref (ad (k + 1)), .ref (ad (k + 2)), .int (nI n), .int (nI (n - cn (bw g n sh) n))]) := by rw [hce3, va_up_self]
          have fr21 : ∀ j, j ≠ (k + 1) → j ≠ (k + 2) → j ≠ k → ce3 j = ce j := fun j h0 h1 h2 => by rw [hce3, va_up_ne _ _ h2]; exact fr15 j h0 h1 h2
          exact W.vret hx hb hr (fun t ht hW => ⟨⟨ce3, rfl, ⟨(fun j g0 g1 g2 => fr21 j g1 g2 g0), w2, r2, q20, q17, q18, hw, fun t ht => j4 t (by omega), hn⟩, by rw [ht]; exact hP, va_K.moved hW.alike hK, hD⟩, hS.F ht⟩) hS.2.2 dV_fill_106
        · skip
          have d2 := nleN c60
          refine lv_aload_n hx hb dV_fill_63 rfl (lv_at hl 2 rfl) ?_
          refine va_get (D := D) (ci := 0) (v := .ref (ad (k + 2))) (C := RV) (T := TV) (N := 4) hx hb hA9 inV hown hK hP k (wx_at (by omega) ((fr10 k (by omega) (by omega)).trans h0)) rfl 1 (by decide) (hA9 _ mfV_15) (fun _ h9 => h9) rfl dV_fill_64 ?_
          refine lv_iload hx hb dV_fill_67 (lv_at hl 0 rfl) ?_
          refine lv_iload hx hb dV_fill_69 (lv_at hl 1 rfl) ?_
          refine va_iast hx hb hK hP hD hS (k + 2) 0 (wx_at (by omega) q9) rfl (inN) dV_fill_71 (fun H locs hP hD hS => ?_)
          rw [clN (a := q)] at hP hD
          obtain ⟨ce2, hce2⟩ : ∃ z9, z9 = va_up cl (k + 2) (.inl (cI, 126, .inl (upd r2 q (nI (cn (bw g n sh) (32 * q)))))) := ⟨_, rfl⟩
          rw [wx_set (by omega), ← hce2] at hP hD
          have q22 : ce2 k = .inr (0, [.ref (ad (k + 1)), .ref (ad (k + 2)), .int (z1), .int (z2)]) := by rw [hce2, va_up_ne _ _ (by omega)]; exact ((fr10 k (by omega) (by omega)).trans h0)
          have q23 : ce2 (k + 1) = .inl (cI, 126, .inl w2) := by rw [hce2, va_up_ne _ _ (by omega)]; exact q8
          have q24 : ce2 ka = .inl (cI, 4000, .inl g) := by rw [hce2, va_up_ne _ _ (by omega)]; exact ((fr10 ka (by omega) (by omega)).trans h3)
          have q25 : ce2 (k + 2) = .inl (cI, 126, .inl (upd r2 q (nI (cn (bw g n sh) (32 * q))))) := by rw [hce2, va_up_self]
          have fr26 : ∀ j, j ≠ (k + 1) → j ≠ (k + 2) → ce2 j = ce j := fun j h0 h1 => by rw [hce2, va_up_ne _ _ h1]; exact fr10 j h0 h1
          refine lv_iload hx hb dV_fill_72 (lv_at hl 1 rfl) ?_
          refine lv_aload_n hx hb dV_fill_74 rfl (lv_at hl 2 rfl) ?_
          refine va_get (D := D) (ci := 0) (v := .ref (ad (k + 1))) (C := RV) (T := TV) (N := 4) hx hb hA9 inV hown hK hP k (wx_at (by omega) q22) rfl 0 (by decide) (hA9 _ mfV_9) (fun _ h9 => h9) rfl dV_fill_75 ?_
          refine lv_iload hx hb dV_fill_78 (lv_at hl 0 rfl) ?_
          obtain ⟨M, hM, eM⟩ := of32 (w2 q)
          refine va_iald hx hb hK hP (k + 1) 0 (wx_at (by omega) q23) rfl (inN) dV_fill_80 ?_
          refine lv_topi (fun z27 ez27 => ?_)
          obtain rfl : z27 = nI M := by rw [ez27, clN]; exact eM
          refine vp_callSi (va_runS (As := [.int (nI M)]) (rest := [.int (nI (cn (bw g n sh) (32 * q)))]) ⟨hx, hb, hml, hown, hA9⟩ (c_J_bitCount l M hM) (va_cwS 1 hA9 (gS mlV_31 mtJ_bitCount mn_J mkJ_bitCount) rfl rfl rfl (by decide +kernel) ⟨Nat.le_of_ble_eq_true rfl, Nat.le_of_ble_eq_true rfl⟩) ⟨P0_bl, P0_mk⟩ rfl rfl hl.1 rfl (lv_room (Nat.le_of_ble_eq_true rfl)) dV_fill_81 ⟨Nat.le_of_ble_eq_true rfl, Nat.le_of_ble_eq_true rfl⟩).run (fun r28 hr28 => ?_)
          obtain rfl : r28 = nI (cn (bt (nI M)) 32) := hr28
          refine lv_iadd hx hb dV_fill_84 ?_
          refine lv_topi (fun z29 ez29 => ?_)
          obtain rfl : z29 = nI (cn (bw g n sh) (32 * (q + 1))) := by rw [ez29]; rw [nI_add, rk_step (by omega) hw eM]
          refine lv_istore (lv' := [(4, .int (nI (cn (bw g n sh) (32 * (q + 1))))), (5, .int (nI q)), (0, .ref (ad k)), (1, .ref (ad ka)), (2, .int (nI n)), (3, .int (nI sh))]) hx hb dV_fill_85 hl (by decide) rfl (fun ls hl => ?_)
          refine lv_iinc (v := nI (q + 1)) (lv' := [(5, .int (nI (q + 1))), (4, .int (nI (cn (bw g n sh) (32 * (q + 1))))), (0, .ref (ad k)), (1, .ref (ad ka)), (2, .int (nI n)), (3, .int (nI sh))]) hx hb dV_fill_87 hl (k := 1) rfl (nI_1 q) (by decide) rfl (fun ls hl => ?_)
          refine lv_goto (tgt := 56) hx hb dV_fill_90 (by decide) ?_
          exact ih _ (by omega) (ls := ls) (cl := ce2) (H := H) (locs := locs) (q := q + 1) (r2 := upd r2 q (nI (cn (bw g n sh) (32 * q)))) (hP := hP) (hD := hD) (hS := hS) (hl := lv_sub hl [0, 1, 2, 3, 4, 5] rfl) (J := ⟨(fun j g0 g1 => fr26 j g0 g1), q23, q25, ⟨by omega, fun t ht => if h9 : t = q then (by rw [h9]; exact pk_us) else (by rw [pk_un h9]; exact j4 t (by omega))⟩⟩) (hk9 := rfl)
    · skip
      have d1 := nleN c14
      refine lv_aload_n hx hb dV_fill_17 rfl (lv_at hl 1 rfl) ?_
      refine va_get (D := D) (ci := 0) (v := .ref (ad (k + 1))) (C := RV) (T := TV) (N := 4) hx hb hA9 inV hown hK hP k (wx_at (by omega) ((fr7 k (by omega)).trans h0)) rfl 0 (by decide) (hA9 _ mfV_9) (fun _ h9 => h9) rfl dV_fill_18 ?_
      refine lv_iload hx hb dV_fill_21 (lv_at hl 0 rfl) ?_
      refine lv_bipush (v := nI 32) hx hb dV_fill_23 (by decide +kernel) ?_
      refine lv_idiv hx hb dV_fill_25 (by decide +kernel) ?_
      refine lv_topi (fun z30 ez30 => ?_)
      obtain rfl : z30 = nI (i / 32) := by rw [ez30]; exact pk_div (by omega) (by omega) (by omega)
      refine lv_dup2_11 hx hb dV_fill_26 rfl rfl ?_
      refine va_iald hx hb hK hP (k + 1) 0 (wx_at (by omega) q6) rfl (inN) dV_fill_27 ?_
      refine lv_topi (fun z31 ez31 => ?_)
      obtain rfl : z31 = w2 (i / 32) := by rw [ez31, clN]
      refine lv_aload_n hx hb dV_fill_28 rfl (lv_at hl 2 rfl) ?_
      refine lv_iload hx hb dV_fill_29 (lv_at hl 0 rfl) ?_
      refine va_iald hx hb hK hP ka 0 (wx_at (by omega) ((fr7 ka (by omega)).trans h3)) rfl (inN) dV_fill_31 ?_
      refine lv_topi (fun z32 ez32 => ?_)
      obtain rfl : z32 = nI (vl g i) := by rw [ez32, clN]; exact (hg.v i).2
      refine lv_iload_n hx hb dV_fill_32 rfl (lv_at hl 4 rfl) ?_
      refine lv_ishr hx hb dV_fill_33 ?_
      refine lv_iconst (v := nI 1) hx hb dV_fill_34 (by decide +kernel) ?_
      refine lv_iand hx hb dV_fill_35 ?_
      refine lv_topi (fun z33 ez33 => ?_)
      obtain rfl : z33 = nI (bN (tb (vl g i) sh)) := by rw [ez33]; exact sh1 (by have := (hg.v i).1; omega) (by omega)
      refine lv_iload hx hb dV_fill_36 (lv_at hl 0 rfl) ?_
      refine lv_bipush (v := nI 32) hx hb dV_fill_38 (by decide +kernel) ?_
      refine lv_irem hx hb dV_fill_40 (by decide +kernel) ?_
      refine lv_topi (fun z34 ez34 => ?_)
      obtain rfl : z34 = nI (i % 32) := by rw [ez34]; exact pk_rem (by omega) (by omega) (by omega)
      refine lv_ishl hx hb dV_fill_41 ?_
      refine lv_ior hx hb dV_fill_42 ?_
      refine va_iast hx hb hK hP hD hS (k + 1) 0 (wx_at (by omega) q6) rfl (inN) dV_fill_43 (fun H locs hP hD hS => ?_)
      rw [clN (a := (i / 32))] at hP hD
      obtain ⟨ce2, hce2⟩ : ∃ z9, z9 = va_up cl (k + 1) (.inl (cI, 126, .inl (upd w2 (i / 32) ((w2 (i / 32)) ||| ((nI (bN (tb (vl g i) sh))) <<< ((nI (i % 32)) &&& 31)))))) := ⟨_, rfl⟩
      rw [wx_set (by omega), ← hce2] at hP hD
      have q35 : ce2 k = .inr (0, [.ref (ad (k + 1)), .ref (ad (k + 2)), .int (z1), .int (z2)]) := by rw [hce2, va_up_ne _ _ (by omega)]; exact ((fr7 k (by omega)).trans h0)
      have q36 : ce2 (k + 2) = .inl (cI, 126, .inl r0) := by rw [hce2, va_up_ne _ _ (by omega)]; exact ((fr7 (k + 2) (by omega)).trans h2)
      have q37 : ce2 ka = .inl (cI, 4000, .inl g) := by rw [hce2, va_up_ne _ _ (by omega)]; exact ((fr7 ka (by omega)).trans h3)
      have q38 : ce2 (k + 1) = .inl (cI, 126, .inl (upd w2 (i / 32) ((w2 (i / 32)) ||| ((nI (bN (tb (vl g i) sh))) <<< ((nI (i % 32)) &&& 31))))) := by rw [hce2, va_up_self]
      have fr39 : ∀ j, j ≠ (k + 1) → ce2 j = ce j := fun j h0 => by rw [hce2, va_up_ne _ _ h0]; exact fr7 j h0
      refine lv_iinc (v := nI (i + 1)) (lv' := [(4, .int (nI (i + 1))), (0, .ref (ad k)), (1, .ref (ad ka)), (2, .int (nI n)), (3, .int (nI sh))]) hx hb dV_fill_44 hl (k := 0) rfl (nI_1 i) (by decide) rfl (fun ls hl => ?_)
      refine lv_goto (tgt := 11) hx hb dV_fill_47 (by decide) ?_
      exact ih _ (by omega) (ls := ls) (cl := ce2) (H := H) (locs := locs) (i := i + 1) (w2 := upd w2 (i / 32) ((w2 (i / 32)) ||| ((nI (bN (tb (vl g i) sh))) <<< ((nI (i % 32)) &&& 31)))) (hP := hP) (hD := hD) (hS := hS) (hl := lv_sub hl [0, 1, 2, 3, 4] rfl) (J := ⟨(fun j g0 => fr39 j g0), q38, ⟨by omega, wf_step d1 hn hg (by omega) j2⟩⟩) (hk9 := rfl)

set_option maxHeartbeats 4000000 in
set_option maxRecDepth 100000 in
theorem c_T_putZerosInFront (l : Launch) (D : va_G) (cI cO cJ : ClassId) (N : Nat) (ad : Nat → Nat) (ce : Nat → va_E) (sz : Nat) (hN : 33 ≤ N) (n : Nat) (hn : n ≤ 4000) (sh : Nat) (hs : sh < 9) (g h : Nat → Int32) (hg : A5 g) (hh : A5 h) (t2 : ce 2 = .inr (1, [.ref (ad 3), .ref (ad 4), .ref (ad 5), .int (nI n)])) (t4 : ce 4 = .inl (cI, 4000, .inl g)) (t5 : ce 5 = .inl (cI, 4000, .inl h)) : Met l yT_putZerosInFront (.code yT_putZerosInFront bT_putZerosInFront 6 none :: WA) ({ frames := 1, cells := 0, slots := 0, locals := 60 }) (PM D (TY cI cO cJ) N ad ce sz [.ref (ad 2), .int (nI sh)]) (va_Qv (fun (ce1 : Nat → va_E) => (∀ j, j ≠ 4 → j ≠ 5 → ce1 j = ce j) ∧ ∃ g1 h1 : Nat → Int32, ce1 4 = .inl (cI, 4000, .inl g1) ∧ ce1 5 = .inl (cI, 4000, .inl h1) ∧ A5 g1 ∧ A5 h1 ∧ PT (vl g) (vl g1) (bw g n sh) n) (BW D (TY cI cO cJ) N ad (AW N ad sz)) (AW N ad sz)) 0 0 (AW N ad sz) := by
  refine Met.ofW (cc := bT_putZerosInFront) (maxL := 6) (ret := none) (by decide) rfl ?_
  intro p e s m args below meth c s₁ B hml hv
  obtain ⟨rfl, hsz, hP, hK, hD0⟩ := hv
  have hx := B.exec
  have hb := B.bytes
  have hr := B.returns
  have hA9 : ∀ w ∈ WA, w.before _ s = true := fun w h => atoms_spec (ws := .code yT_putZerosInFront bT_putZerosInFront 6 none :: WA) B.pre w (List.mem_cons_of_mem _ h)
  have hown : s.vm.findClass RT = some m.cls := findClass_of_methodNamed B.named
  have hlocks := B.notSynchronized
  subst hsz
  have hD := aw_D (sz := s.heap.size) hD0
  generalize hAe : AW N ad s.heap.size = A at hD ⊢
  have hA : ∀ q, s.heap.size ≤ q → A q := fun q h => by rw [← hAe]; exact Or.inr h
  clear hAe hD0
  have hl := lv_entry ([.ref (ad 2), .int (nI sh)]) (n := 6) (Nat.le_of_ble_eq_true rfl)
  rw [lg_entry_eq]
  generalize (lg_sl ([.ref (ad 2), .int (nI sh)]) ++ List.replicate (6 - (lg_sl ([.ref (ad 2), .int (nI sh)])).length) Slot.unset).toArray = ls at hl ⊢
  have hl : lv_has ls 6 [(0, .ref (ad 2)), (1, .int (nI sh))] := hl
  refine st0 (A := A) (fun H locs hS hH => ?_)
  rw [← hH] at hP
  clear hH
  refine lv_iconst (v := nI 0) hx hb dT_putZerosInFront_0 (by decide +kernel) ?_
  refine lv_istore_n (lv' := [(2, .int (nI 0)), (0, .ref (ad 2)), (1, .int (nI sh))]) hx hb dT_putZerosInFront_1 rfl hl (by decide) rfl (fun ls hl => ?_)
  refine lv_iconst (v := nI 0) hx hb dT_putZerosInFront_2 (by decide +kernel) ?_
  refine lv_istore_n (lv' := [(3, .int (nI 0)), (2, .int (nI 0)), (0, .ref (ad 2)), (1, .int (nI sh))]) hx hb dT_putZerosInFront_3 rfl hl (by decide) rfl (fun ls hl => ?_)
  refine lv_iconst (v := nI 0) hx hb dT_putZerosInFront_4 (by decide +kernel) ?_
  refine lv_istore (lv' := [(4, .int (nI 0)), (3, .int (nI 0)), (2, .int (nI 0)), (0, .ref (ad 2)), (1, .int (nI sh))]) hx hb dT_putZerosInFront_5 hl (by decide) rfl (fun ls hl => ?_)
  obtain ⟨cl, hcl0⟩ : ∃ z : Nat → va_E, ce = z := ⟨_, rfl⟩
  obtain ⟨i, hi0⟩ : ∃ z : Nat, (0) = z := ⟨_, rfl⟩
  obtain ⟨g1, hg10⟩ : ∃ z : Nat → Int32, (g) = z := ⟨_, rfl⟩
  obtain ⟨h1, hh10⟩ : ∃ z : Nat → Int32, (h) = z := ⟨_, rfl⟩
  replace hl : lv_has ls 6 [(4, .int (nI i)), (3, .int (nI (cn (bw g n sh) i))), (2, .int (nI (i - cn (bw g n sh) i))), (0, .ref (ad 2)), (1, .int (nI sh))] := by subst hi0 hg10 hh10; exact lv_sub hl [0, 1, 2, 3, 4] rfl
  have J : (∀ j, j ≠ 4 → j ≠ 5 → cl j = ce j) ∧ cl 4 = .inl (cI, 4000, .inl g1) ∧ cl 5 = .inl (cI, 4000, .inl h1) ∧ i ≤ n ∧ A5 g1 ∧ A5 h1 ∧ ZF g (bw g n sh) i g1 h1 := by
    subst hcl0 hi0 hg10 hh10
    exact ⟨(fun j g0 g1 => rfl), t4, t5, ⟨by omega, hg, hh, fun _ _ => rfl, fun t ht => absurd ht (by omega)⟩⟩
  rw [hcl0] at hP hD
  clear hcl0 hi0 hg10 hh10
  obtain ⟨k9, hk9⟩ : ∃ z9 : Nat, z9 = n - i := ⟨_, rfl⟩
  induction k9 using Nat.strongRecOn generalizing i g1 h1 cl H locs ls with
  | ind k9 ih =>
    obtain ⟨fr3, q1, q2, JJ⟩ := J
    obtain ⟨j1, j2, j3, j4⟩ := JJ
    have cle := cn_le (bw g n sh) i
    refine lv_iload hx hb dT_putZerosInFront_7 (lv_at hl 0 rfl) ?_
    refine lv_aload_n hx hb dT_putZerosInFront_9 rfl (lv_at hl 3 rfl) ?_
    refine va_get (D := D) (ci := 1) (v := .int (nI n)) (C := RT) (T := TT) (N := 4) hx hb hA9 inT hown hK hP 2 (wx_at (by omega) ((fr3 2 (by omega) (by omega)).trans t2)) rfl 3 (by decide) (hA9 _ mfT_25) (fun _ h9 => h9) rfl dT_putZerosInFront_10 ?_
    refine lv_icmp_ge (tgt := 65) hx hb dT_putZerosInFront_13 (by decide) (fun c13 => ?_) (fun c13 => ?_)
    · skip
      have d1 := leN c13
      have hin9 : i = n := by omega
      subst hin9
      refine lv_aload_n hx hb dT_putZerosInFront_65 rfl (lv_at hl 3 rfl) ?_
      refine va_get (D := D) (ci := 1) (v := .ref (ad 5)) (C := RT) (T := TT) (N := 4) hx hb hA9 inT hown hK hP 2 (wx_at (by omega) ((fr3 2 (by omega) (by omega)).trans t2)) rfl 2 (by decide) (hA9 _ mfT_21) (fun _ h9 => h9) rfl dT_putZerosInFront_66 ?_
      refine lv_iconst (v := nI 0) hx hb dT_putZerosInFront_69 (by decide +kernel) ?_
      refine lv_aload_n hx hb dT_putZerosInFront_70 rfl (lv_at hl 3 rfl) ?_
      refine va_get (D := D) (ci := 1) (v := .ref (ad 4)) (C := RT) (T := TT) (N := 4) hx hb hA9 inT hown hK hP 2 (wx_at (by omega) ((fr3 2 (by omega) (by omega)).trans t2)) rfl 1 (by decide) (hA9 _ mfT_17) (fun _ h9 => h9) rfl dT_putZerosInFront_71 ?_
      refine lv_iload_n hx hb dT_putZerosInFront_74 rfl (lv_at hl 2 rfl) ?_
      refine lv_iload_n hx hb dT_putZerosInFront_75 rfl (lv_at hl 1 rfl) ?_
      refine va_copyi (ty := .int) hx hb (hml.trans hl.1.symm) hown (hA9 _ mlT_29) (hA9 _ mnatarraycopyName) (hA9 _ mtarraycopyName) (hA9 _ mn_sys) hK hP hD hS 5 4 0 0 (wx_at (by omega) q2) (wx_at (by omega) q1) rfl rfl rfl (nI_pos (by omega)) (nI_pos (by omega)) (nI_pos (by omega)) (by rw [clN, clN]; omega) (by rw [clN, clN]; omega) (fun _ _ => rfl) (Nat.le_of_ble_eq_true rfl) (by decide +kernel) dT_putZerosInFront_76 (fun H locs hP hD hS => ?_)
      rw [clN (a := 0), clN (a := (i - cn (bw g i sh) i)), clN (a := (cn (bw g i sh) i))] at hP hD
      obtain ⟨ce1, hce1⟩ : ∃ z9, z9 = va_up cl 4 (.inl (cI, 4000, .inl (va_cpy h1 g1 0 (i - cn (bw g i sh) i) (cn (bw g i sh) i)))) := ⟨_, rfl⟩
      rw [wx_set (by omega), ← hce1] at hP hD
      have q4 : ce1 2 = .inr (1, [.ref (ad 3), .ref (ad 4), .ref (ad 5), .int (nI i)]) := by rw [hce1, va_up_ne _ _ (by omega)]; exact ((fr3 2 (by omega) (by omega)).trans t2)
      have q5 : ce1 5 = .inl (cI, 4000, .inl h1) := by rw [hce1, va_up_ne _ _ (by omega)]; exact q2
      have q6 : ce1 4 = .inl (cI, 4000, .inl (va_cpy h1 g1 0 (i - cn (bw g i sh) i) (cn (bw g i sh) i))) := by rw [hce1, va_up_self]
      have fr7 : ∀ j, j ≠ 4 → j ≠ 5 → ce1 j = ce j := fun j h0 h1 => by rw [hce1, va_up_ne _ _ h0]; exact fr3 j h0 h1
      exact W.vret hx hb hr (fun t ht hW => ⟨⟨ce1, rfl, ⟨(fun j g0 g1 => fr7 j g0 g1), _, _, q6, q5, j3.c j2, j3, j4.e hg⟩, by rw [ht]; exact hP, va_K.moved hW.alike hK, hD⟩, hS.F ht⟩) hS.2.2 dT_putZerosInFront_79
    · skip
      have d1 := nleN c13
      have hbw : bw g n sh i = tb (vl g i) sh := by unfold bw; rw [decide_eq_true d1, Bool.true_and]
      refine lv_aload_n hx hb dT_putZerosInFront_16 rfl (lv_at hl 3 rfl) ?_
      refine va_get (D := D) (ci := 1) (v := .ref (ad 4)) (C := RT) (T := TT) (N := 4) hx hb hA9 inT hown hK hP 2 (wx_at (by omega) ((fr3 2 (by omega) (by omega)).trans t2)) rfl 1 (by decide) (hA9 _ mfT_17) (fun _ h9 => h9) rfl dT_putZerosInFront_17 ?_
      refine lv_iload hx hb dT_putZerosInFront_20 (lv_at hl 0 rfl) ?_
      refine va_iald hx hb hK hP 4 0 (wx_at (by omega) q1) rfl (inN) dT_putZerosInFront_22 ?_
      refine lv_topi (fun z8 ez8 => ?_)
      obtain rfl : z8 = nI (vl g i) := by rw [ez8, clN]; rw [j4.1 i (Nat.le_refl i)]; exact (hg.v i).2
      refine lv_istore (lv' := [(5, .int (nI (vl g i))), (4, .int (nI i)), (3, .int (nI (cn (bw g n sh) i))), (2, .int (nI (i - cn (bw g n sh) i))), (0, .ref (ad 2)), (1, .int (nI sh))]) hx hb dT_putZerosInFront_23 hl (by decide) rfl (fun ls hl => ?_)
      refine lv_iload hx hb dT_putZerosInFront_25 (lv_at hl 0 rfl) ?_
      refine lv_iload_n hx hb dT_putZerosInFront_27 rfl (lv_at hl 5 rfl) ?_
      refine lv_ishr hx hb dT_putZerosInFront_28 ?_
      refine lv_iconst (v := nI 1) hx hb dT_putZerosInFront_29 (by decide +kernel) ?_
      refine lv_iand hx hb dT_putZerosInFront_30 ?_
      refine lv_topi (fun z9 ez9 => ?_)
      obtain rfl : z9 = nI (bN (tb (vl g i) sh)) := by rw [ez9]; exact sh1 (by have := (hg.v i).1; omega) (by omega)
      refine lv_if_ne (tgt := 48) hx hb dT_putZerosInFront_31 (by decide) (fun c31 => ?_) (fun c31 => ?_)
      · skip
        have hbz := hbw.trans (bz_t c31)
        refine lv_aload_n hx hb dT_putZerosInFront_48 rfl (lv_at hl 4 rfl) ?_
        refine va_get (D := D) (ci := 1) (v := .ref (ad 5)) (C := RT) (T := TT) (N := 4) hx hb hA9 inT hown hK hP 2 (wx_at (by omega) ((fr3 2 (by omega) (by omega)).trans t2)) rfl 2 (by decide) (hA9 _ mfT_21) (fun _ h9 => h9) rfl dT_putZerosInFront_49 ?_
        refine lv_iload_n hx hb dT_putZerosInFront_52 rfl (lv_at hl 2 rfl) ?_
        refine lv_iload hx hb dT_putZerosInFront_53 (lv_at hl 0 rfl) ?_
        refine va_iast hx hb hK hP hD hS 5 0 (wx_at (by omega) q2) rfl (inN) dT_putZerosInFront_55 (fun H locs hP hD hS => ?_)
        rw [clN (a := (cn (bw g n sh) i))] at hP hD
        obtain ⟨ce1, hce1⟩ : ∃ z9, z9 = va_up cl 5 (.inl (cI, 4000, .inl (upd h1 (cn (bw g n sh) i) (nI (vl g i))))) := ⟨_, rfl⟩
        rw [wx_set (by omega), ← hce1] at hP hD
        have q10 : ce1 2 = .inr (1, [.ref (ad 3), .ref (ad 4), .ref (ad 5), .int (nI n)]) := by rw [hce1, va_up_ne _ _ (by omega)]; exact ((fr3 2 (by omega) (by omega)).trans t2)
        have q11 : ce1 4 = .inl (cI, 4000, .inl g1) := by rw [hce1, va_up_ne _ _ (by omega)]; exact q1
        have q12 : ce1 5 = .inl (cI, 4000, .inl (upd h1 (cn (bw g n sh) i) (nI (vl g i)))) := by rw [hce1, va_up_self]
        have fr13 : ∀ j, j ≠ 4 → j ≠ 5 → ce1 j = ce j := fun j h0 h1 => by rw [hce1, va_up_ne _ _ h1]; exact fr3 j h0 h1
        refine lv_iinc (v := nI (cn (bw g n sh) i + 1)) (lv' := [(3, .int (nI (cn (bw g n sh) i + 1))), (5, .int (nI (vl g i))), (4, .int (nI i)), (2, .int (nI (i - cn (bw g n sh) i))), (0, .ref (ad 2)), (1, .int (nI sh))]) hx hb dT_putZerosInFront_56 hl (k := 2) rfl (nI_1 _) (by decide) rfl (fun ls hl => ?_)
        refine lv_iinc (v := nI (i + 1)) (lv' := [(4, .int (nI (i + 1))), (3, .int (nI (cn (bw g n sh) i + 1))), (5, .int (nI (vl g i))), (2, .int (nI (i - cn (bw g n sh) i))), (0, .ref (ad 2)), (1, .int (nI sh))]) hx hb dT_putZerosInFront_59 hl (k := 2) rfl (nI_1 i) (by decide) rfl (fun ls hl => ?_)
        refine lv_goto (tgt := 7) hx hb dT_putZerosInFront_62 (by decide) ?_
        exact ih _ (by omega) (ls := ls) (cl := ce1) (H := H) (locs := locs) (i := i + 1) (g1 := g1) (h1 := upd h1 (cn (bw g n sh) i) (nI (vl g i))) (hP := hP) (hD := hD) (hS := hS) (hl := by rw [cn_t hbz, Nat.add_sub_add_right]; exact lv_sub hl [0, 1, 3, 4, 5] rfl) (J := ⟨(fun j g0 g1 => fr13 j g0 g1), q11, q12, ⟨by omega, j2, j3.u (hg.v i).1, by rw [← (hg.v i).2]; exact j4.o hbz⟩⟩) (hk9 := rfl)
      · skip
        have hbz := hbw.trans (bz_f c31)
        refine lv_aload_n hx hb dT_putZerosInFront_34 rfl (lv_at hl 4 rfl) ?_
        refine va_get (D := D) (ci := 1) (v := .ref (ad 4)) (C := RT) (T := TT) (N := 4) hx hb hA9 inT hown hK hP 2 (wx_at (by omega) ((fr3 2 (by omega) (by omega)).trans t2)) rfl 1 (by decide) (hA9 _ mfT_17) (fun _ h9 => h9) rfl dT_putZerosInFront_35 ?_
        refine lv_iload_n hx hb dT_putZerosInFront_38 rfl (lv_at hl 3 rfl) ?_
        refine lv_iload hx hb dT_putZerosInFront_39 (lv_at hl 0 rfl) ?_
        refine va_iast hx hb hK hP hD hS 4 0 (wx_at (by omega) q1) rfl (inN) dT_putZerosInFront_41 (fun H locs hP hD hS => ?_)
        rw [clN (a := (i - cn (bw g n sh) i))] at hP hD
        obtain ⟨ce1, hce1⟩ : ∃ z9, z9 = va_up cl 4 (.inl (cI, 4000, .inl (upd g1 (i - cn (bw g n sh) i) (nI (vl g i))))) := ⟨_, rfl⟩
        rw [wx_set (by omega), ← hce1] at hP hD
        have q14 : ce1 2 = .inr (1, [.ref (ad 3), .ref (ad 4), .ref (ad 5), .int (nI n)]) := by rw [hce1, va_up_ne _ _ (by omega)]; exact ((fr3 2 (by omega) (by omega)).trans t2)
        have q15 : ce1 5 = .inl (cI, 4000, .inl h1) := by rw [hce1, va_up_ne _ _ (by omega)]; exact q2
        have q16 : ce1 4 = .inl (cI, 4000, .inl (upd g1 (i - cn (bw g n sh) i) (nI (vl g i)))) := by rw [hce1, va_up_self]
        have fr17 : ∀ j, j ≠ 4 → j ≠ 5 → ce1 j = ce j := fun j h0 h1 => by rw [hce1, va_up_ne _ _ h0]; exact fr3 j h0 h1
        refine lv_iinc (v := nI (i + 1 - cn (bw g n sh) i)) (lv' := [(2, .int (nI (i + 1 - cn (bw g n sh) i))), (5, .int (nI (vl g i))), (4, .int (nI i)), (3, .int (nI (cn (bw g n sh) i))), (0, .ref (ad 2)), (1, .int (nI sh))]) hx hb dT_putZerosInFront_42 hl (k := 3) rfl ((nI_1 _).trans (congrArg nI (by omega))) (by decide) rfl (fun ls hl => ?_)
        refine lv_goto (tgt := 59) hx hb dT_putZerosInFront_45 (by decide) ?_
        refine lv_iinc (v := nI (i + 1)) (lv' := [(4, .int (nI (i + 1))), (2, .int (nI (i + 1 - cn (bw g n sh) i))), (5, .int (nI (vl g i))), (3, .int (nI (cn (bw g n sh) i))), (0, .ref (ad 2)), (1, .int (nI sh))]) hx hb dT_putZerosInFront_59 hl (k := 2) rfl (nI_1 i) (by decide) rfl (fun ls hl => ?_)
        refine lv_goto (tgt := 7) hx hb dT_putZerosInFront_62 (by decide) ?_
        exact ih _ (by omega) (ls := ls) (cl := ce1) (H := H) (locs := locs) (i := i + 1) (g1 := upd g1 (i - cn (bw g n sh) i) (nI (vl g i))) (h1 := h1) (hP := hP) (hD := hD) (hS := hS) (hl := by rw [cn_f hbz]; exact lv_sub hl [0, 3, 1, 4, 5] rfl) (J := ⟨(fun j g0 g1 => fr17 j g0 g1), q16, q15, ⟨by omega, j2.u (hg.v i).1, j3, by rw [← (hg.v i).2]; exact j4.z hbz⟩⟩) (hk9 := rfl)
