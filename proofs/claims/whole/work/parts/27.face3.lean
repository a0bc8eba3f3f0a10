set_option maxHeartbeats 4000000 in
set_option maxRecDepth 100000 in
theorem c_L_different (l : Launch) (hlt : l.stackTraces = false) (D : va_G) (cI cO cJ : ClassId) (N : Nat) (ad : Nat → Nat) (ce : Nat → va_E) (sz : Nat) (hN : 34 ≤ N) (os : Nat → Nat → Nat) (n : Nat) (hT : TR cI cO ad ce os n) (rl gc : Nat) (h0 : ce 0 = .inr (2, [.ref (ad 1), .ref (ad 2), .ref (ad 33), .int (nI rl), .int (nI gc)])) (f : Nat → Nat) (hW : WM f n os) (hf : ∀ i, i < n → f i < 512) (gr : Nat → Int32) (h3 : ce 33 = .inl (cI, 512, .inl gr)) (a b : Int32) : vx_Met l yL_different (.code yL_different bL_different 5 (some .int) :: WA) ({ frames := 7, cells := 1, slots := 6, locals := 112 }) (PX D (TY cI cO cJ) N ad ce sz [.ref (ad 0), .int (a), .int (b)]) (va_Qi (fun (r : Int32) (ce1 : Nat → va_E) => (∀ j, j ≠ 0 → j ≠ 33 → ce1 j = ce j) ∧ ∃ u v, u ≤ v ∧ v ≤ n ∧ a = nI u ∧ b = nI v ∧ r = nI (nd f u v 512) ∧ ce1 0 = .inr (2, [.ref (ad 1), .ref (ad 2), .ref (ad 33), .int (nI rl), .int (nI (nd f u v 512))]) ∧ ∃ gr1 : Nat → Int32, ce1 33 = .inl (cI, 512, .inl gr1) ∧ DG f u v 512 gr1) (BW D (TY cI cO cJ) N ad (AW N ad sz)) (AW N ad sz)) (XK (fun E => E = eI ∧ ¬ PA a b n)) 1 6 (AW N ad sz) := by
  refine vx_ofW (cc := bL_different) (maxL := 5) (ret := (some .int)) (by decide) rfl ?_
  intro p e s m args below meth c s₁ B hml htab hv
  obtain ⟨rfl, hsz, hP, hK, hD0, hE⟩ := hv
  have hx := B.exec
  have hb := B.bytes
  have hr := B.returns
  have hA9 : ∀ w ∈ WA, w.before _ s = true := fun w h => atoms_spec (ws := .code yL_different bL_different 5 (some .int) :: WA) B.pre w (List.mem_cons_of_mem _ h)
  have hown : s.vm.findClass RL = some m.cls := findClass_of_methodNamed B.named
  have hlocks := B.notSynchronized
  subst hsz
  have hD := aw_D (sz := s.heap.size) hD0
  generalize hAe : AW N ad s.heap.size = A at hD hE ⊢
  have hA : ∀ q, s.heap.size ≤ q → A q := fun q h => by rw [← hAe]; exact Or.inr h
  clear hAe hD0
  obtain ⟨-, -, ⟨g39, s39⟩, ⟨g52, s52⟩, ⟨g92, s92⟩, ⟨g94, s94⟩, ⟨g70, s70⟩, ⟨g76, s76⟩, ⟨g90, s90⟩, -⟩ := id hE
  have hl := lv_entry ([.ref (ad 0), .int (a), .int (b)]) (n := 5) (Nat.le_of_ble_eq_true rfl)
  rw [lg_entry_eq]
  generalize (lg_sl ([.ref (ad 0), .int (a), .int (b)]) ++ List.replicate (5 - (lg_sl ([.ref (ad 0), .int (a), .int (b)])).length) Slot.unset).toArray = ls at hl ⊢
  have hl : lv_has ls 5 [(0, .ref (ad 0)), (1, .int (a)), (2, .int (b))] := hl
  refine st0 (A := A) (fun H locs hS hH => ?_)
  have hU : ∀ q : Nat, q < s.heap.size → H[q]? = s.heap[q]? := fun q _ => by rw [hH]
  rw [← hH] at hP
  clear hH
  have hn := hT.2.2.2
  refine lv_aload_n hx hb dL_different_0 rfl (lv_at hl 0 rfl) ?_
  refine lv_iload_n hx hb dL_different_1 rfl (lv_at hl 1 rfl) ?_
  refine lv_iload_n hx hb dL_different_2 rfl (lv_at hl 2 rfl) ?_
  refine chk (P0 := fun E => E = eI ∧ ¬ PA (a) (b) n) hlocks htab (vx_runV (As := [.int (a), .int (b)]) (rest := []) ⟨hx, hb, hml, hown, hA9⟩ (c_L_checkPart l hlt D cI cO cJ N ad ce H.size hN os n hT rl gc h0 (a) (b)) (cwV 2 hA9 (gV mlL_63 miL_checkPart msL_checkPart mn_L mkL_checkPart) rfl rfl rfl (by decide +kernel) ⟨Nat.le_of_ble_eq_true rfl, Nat.le_of_ble_eq_true rfl⟩) ⟨PX_bl, wx_recv hK hP (by omega) h0 rfl, PX_mk hK hP hD hE hS hA⟩ rfl rfl hl.1 rfl (lv_room (Nat.le_of_ble_eq_true rfl)) dL_different_3 ⟨Nat.le_of_ble_eq_true rfl, Nat.le_of_ble_eq_true rfl⟩) hS hP hD hA hU (fun E h => h) (by decide) (by decide) (fun H locs hq hP hS hU => ?_)
  obtain ⟨u, v, huv, hv, rfl, rfl⟩ := hq
  refine lv_iconst (v := nI (lq f 0 u v)) hx hb dL_different_6 (by rw [lq_0 f huv]; decide +kernel) ?_
  refine lv_istore_n (lv' := [(3, .int (nI (lq f 0 u v))), (0, .ref (ad 0)), (1, .int (nI u)), (2, .int (nI v))]) hx hb dL_different_7 rfl hl (by decide) rfl (fun ls hl => ?_)
  refine lv_iconst (v := nI (nd f u v 0)) hx hb dL_different_8 (by rw [show nd f u v 0 = 0 from rfl]; decide +kernel) ?_
  refine lv_istore (lv' := [(4, .int (nI (nd f u v 0))), (3, .int (nI (lq f 0 u v))), (0, .ref (ad 0)), (1, .int (nI u)), (2, .int (nI v))]) hx hb dL_different_9 hl (by decide) rfl (fun ls hl => ?_)
  clear hU
  obtain ⟨cl, hcl0⟩ : ∃ z : Nat → va_E, ce = z := ⟨_, rfl⟩
  obtain ⟨z, hz0⟩ : ∃ z : Nat, (0) = z := ⟨_, rfl⟩
  obtain ⟨gr1, hgr10⟩ : ∃ z : Nat → Int32, (gr) = z := ⟨_, rfl⟩
  replace hl : lv_has ls 5 [(4, .int (nI (nd f u v z))), (3, .int (nI (lq f z u v))), (0, .ref (ad 0)), (1, .int (nI u)), (2, .int (nI v))] := by subst hz0 hgr10; exact lv_sub hl [0, 1, 2, 3, 4] rfl
  have J : (∀ j, j ≠ 33 → cl j = ce j) ∧ cl 33 = .inl (cI, 512, .inl gr1) ∧ z ≤ 512 ∧ DG f u v z gr1 := by
    subst hcl0 hz0 hgr10
    exact ⟨(fun j g0 => rfl), h3, ⟨by omega, fun t ht => absurd ht (by omega)⟩⟩
  rw [hcl0] at hP hD
  clear hcl0 hz0 hgr10
  obtain ⟨k9, hk9⟩ : ∃ z9 : Nat, z9 = 512 - z := ⟨_, rfl⟩
  induction k9 using Nat.strongRecOn generalizing z gr1 cl H locs ls with
  | ind k9 ih =>
    obtain ⟨fr2, q1, JJ⟩ := J
    obtain ⟨j1, j2⟩ := JJ
    have ndz := nd_le f u v z
    have lz := lq_le f z huv
    have hT9 : TR cI cO ad cl os n := hT.cg (fun j hj => fr2 j (by omega))
    refine lv_iload hx hb dL_different_11 (lv_at hl 0 rfl) ?_
    refine lv_sipush (v := nI 512) hx hb dL_different_13 (by decide +kernel) ?_
    refine lv_icmp_ge (tgt := 62) hx hb dL_different_16 (by decide) (fun c16 => ?_) (fun c16 => ?_)
    · skip
      have d1 := leN c16
      have hz9 : z = 512 := by omega
      have fl : ∀ t, z ≤ t → t < 512 → eq f t u v = 0 := fun t q1 q2 => absurd q2 (by omega)
      have nx := nd_ext j1 fl
      rw [← nx] at hl
      refine lv_aload_n hx hb dL_different_62 rfl (lv_at hl 2 rfl) ?_
      refine lv_iload hx hb dL_different_63 (lv_at hl 0 rfl) ?_
      refine va_put (D := D) (ci := 2) (v := .int (nI (nd f u v 512))) (ty := .int) (C := RL) (T := TL) (N := 5) hx hb hA9 inL tyL tyL_ok nmL hown hK hP hD hS 0 (wx_at (by omega) ((fr2 0 (by omega)).trans h0)) rfl 4 (by decide) (hA9 _ mfL_27) (fun _ h9 => h9) rfl (by decide +kernel) rfl rfl (Nat.le_of_ble_eq_true rfl) dL_different_65 (fun H locs hP hD hS => ?_)
      replace hP : va_P D CLS ((wx N ad cl).set 0 (ad 0, .inr (2, [.ref (ad 1), .ref (ad 2), .ref (ad 33), .int (nI rl), .int (nI (nd f u v 512))]))) H := hP
      replace hD : va_D A ((wx N ad cl).set 0 (ad 0, .inr (2, [.ref (ad 1), .ref (ad 2), .ref (ad 33), .int (nI rl), .int (nI (nd f u v 512))]))) := hD
      obtain ⟨ce1, hce1⟩ : ∃ z9, z9 = va_up cl 0 (.inr (2, [.ref (ad 1), .ref (ad 2), .ref (ad 33), .int (nI rl), .int (nI (nd f u v 512))])) := ⟨_, rfl⟩
      rw [wx_set (by omega), ← hce1] at hP hD
      have q3 : ce1 2 = .inr (1, [.ref (ad 3), .ref (ad 4), .ref (ad 5), .int (nI n)]) := by rw [hce1, va_up_ne _ _ (by omega)]; exact ((fr2 2 (by omega)).trans hT.1)
      have q4 : ce1 33 = .inl (cI, 512, .inl gr1) := by rw [hce1, va_up_ne _ _ (by omega)]; exact q1
      have q5 : ce1 0 = .inr (2, [.ref (ad 1), .ref (ad 2), .ref (ad 33), .int (nI rl), .int (nI (nd f u v 512))]) := by rw [hce1, va_up_self]
      have fr6 : ∀ j, j ≠ 33 → j ≠ 0 → ce1 j = ce j := fun j h0 h1 => by rw [hce1, va_up_ne _ _ h1]; exact fr2 j h0
      refine lv_iload hx hb dL_different_68 (lv_at hl 0 rfl) ?_
      refine W.widen (k := 1) (n := 6) (by decide) (by decide) ?_
      refine vx_ret ?_
      exact W.iret (v := (nI (nd f u v 512))) hx hb hr (fun t ht hW => ⟨⟨(nI (nd f u v 512)), ce1, rfl, ⟨(fun j g0 g1 => fr6 j g1 g0), u, v, huv, hv, rfl, rfl, rfl, q5, gr1, q4, j2.ext fl⟩, by rw [ht]; exact hP, va_K.moved hW.alike hK, hD⟩, hS.F ht⟩) hS.2.2 dL_different_70
    · skip
      have d1 := nleN c16
      refine lv_iload_n hx hb dL_different_19 rfl (lv_at hl 1 rfl) ?_
      refine lv_iload_n hx hb dL_different_20 rfl (lv_at hl 4 rfl) ?_
      refine lv_iload_n hx hb dL_different_21 rfl (lv_at hl 3 rfl) ?_
      refine lv_isub hx hb dL_different_22 ?_
      refine lv_topi (fun z7 ez7 => ?_)
      obtain rfl : z7 = nI (v - u) := by rw [ez7]; exact pk_sub huv
      refine lv_icmp_ge (tgt := 62) hx hb dL_different_23 (by decide) (fun c23 => ?_) (fun c23 => ?_)
      · skip
        have d2 := leN c23
        have fl : ∀ t, z ≤ t → t < 512 → eq f t u v = 0 := lq_flat huv (by rw [lq_512 hf huv hv]; exact d2)
        have nx := nd_ext j1 fl
        rw [← nx] at hl
        refine lv_aload_n hx hb dL_different_62 rfl (lv_at hl 2 rfl) ?_
        refine lv_iload hx hb dL_different_63 (lv_at hl 0 rfl) ?_
        refine va_put (D := D) (ci := 2) (v := .int (nI (nd f u v 512))) (ty := .int) (C := RL) (T := TL) (N := 5) hx hb hA9 inL tyL tyL_ok nmL hown hK hP hD hS 0 (wx_at (by omega) ((fr2 0 (by omega)).trans h0)) rfl 4 (by decide) (hA9 _ mfL_27) (fun _ h9 => h9) rfl (by decide +kernel) rfl rfl (Nat.le_of_ble_eq_true rfl) dL_different_65 (fun H locs hP hD hS => ?_)
        replace hP : va_P D CLS ((wx N ad cl).set 0 (ad 0, .inr (2, [.ref (ad 1), .ref (ad 2), .ref (ad 33), .int (nI rl), .int (nI (nd f u v 512))]))) H := hP
        replace hD : va_D A ((wx N ad cl).set 0 (ad 0, .inr (2, [.ref (ad 1), .ref (ad 2), .ref (ad 33), .int (nI rl), .int (nI (nd f u v 512))]))) := hD
        obtain ⟨ce1, hce1⟩ : ∃ z9, z9 = va_up cl 0 (.inr (2, [.ref (ad 1), .ref (ad 2), .ref (ad 33), .int (nI rl), .int (nI (nd f u v 512))])) := ⟨_, rfl⟩
        rw [wx_set (by omega), ← hce1] at hP hD
        have q8 : ce1 2 = .inr (1, [.ref (ad 3), .ref (ad 4), .ref (ad 5), .int (nI n)]) := by rw [hce1, va_up_ne _ _ (by omega)]; exact ((fr2 2 (by omega)).trans hT.1)
        have q9 : ce1 33 = .inl (cI, 512, .inl gr1) := by rw [hce1, va_up_ne _ _ (by omega)]; exact q1
        have q10 : ce1 0 = .inr (2, [.ref (ad 1), .ref (ad 2), .ref (ad 33), .int (nI rl), .int (nI (nd f u v 512))]) := by rw [hce1, va_up_self]
        have fr11 : ∀ j, j ≠ 33 → j ≠ 0 → ce1 j = ce j := fun j h0 h1 => by rw [hce1, va_up_ne _ _ h1]; exact fr2 j h0
        refine lv_iload hx hb dL_different_68 (lv_at hl 0 rfl) ?_
        refine W.widen (k := 1) (n := 6) (by decide) (by decide) ?_
        refine vx_ret ?_
        exact W.iret (v := (nI (nd f u v 512))) hx hb hr (fun t ht hW => ⟨⟨(nI (nd f u v 512)), ce1, rfl, ⟨(fun j g0 g1 => fr11 j g1 g0), u, v, huv, hv, rfl, rfl, rfl, q10, gr1, q9, j2.ext fl⟩, by rw [ht]; exact hP, va_K.moved hW.alike hK, hD⟩, hS.F ht⟩) hS.2.2 dL_different_70
      · skip
        have d2 := nleN c23
        refine lv_aload_n hx hb dL_different_26 rfl (lv_at hl 2 rfl) ?_
        refine va_get (D := D) (ci := 2) (v := .ref (ad 33)) (C := RL) (T := TL) (N := 5) hx hb hA9 inL hown hK hP 0 (wx_at (by omega) ((fr2 0 (by omega)).trans h0)) rfl 2 (by decide) (hA9 _ mfL_20) (fun _ h9 => h9) rfl dL_different_27 ?_
        refine lv_iload hx hb dL_different_30 (lv_at hl 0 rfl) ?_
        refine lv_aload_n hx hb dL_different_32 rfl (lv_at hl 2 rfl) ?_
        refine va_get (D := D) (ci := 2) (v := .ref (ad 2)) (C := RL) (T := TL) (N := 5) hx hb hA9 inL hown hK hP 0 (wx_at (by omega) ((fr2 0 (by omega)).trans h0)) rfl 1 (by decide) (hA9 _ mfL_16) (fun _ h9 => h9) rfl dL_different_33 ?_
        refine lv_iload_n hx hb dL_different_36 rfl (lv_at hl 3 rfl) ?_
        refine lv_iload_n hx hb dL_different_37 rfl (lv_at hl 4 rfl) ?_
        refine lv_iload_n hx hb dL_different_38 rfl (lv_at hl 1 rfl) ?_
        refine vp_callSi (va_runV (As := [.int (nI u), .int (nI v), .int (nI (lq f z u v))]) (rest := [.int (nI (nd f u v z)), .ref (ad 33)]) ⟨hx, hb, hml, hown, hA9⟩ (c_T_groupOf l D cI cO cJ N ad cl (by omega) os n hT9 f hW hf u v huv hv (lq f z u v) (by omega)) (cwV 3 hA9 (gV mlL_78 miT_groupOf msT_groupOf mn_T mkT_groupOf) rfl rfl rfl (by decide +kernel) ⟨Nat.le_of_ble_eq_true rfl, Nat.le_of_ble_eq_true rfl⟩) ⟨PR_bl, wx_recv hK hP (by omega) ((fr2 2 (by omega)).trans hT.1) rfl, PR_mk hK hP⟩ rfl rfl hl.1 rfl (lv_room (Nat.le_of_ble_eq_true rfl)) dL_different_39 ⟨Nat.le_of_ble_eq_true rfl, Nat.le_of_ble_eq_true rfl⟩).run (fun r12 hr12 => ?_)
        obtain ⟨w5, rfl, hkt, hw5⟩ := hr12
        have el := eq_le f w5 huv
        obtain ⟨kn1, kn2, kn3, kn4, kn5⟩ := kt_next huv hkt
        have ndl := nd_le f u v w5
        refine va_iast hx hb hK hP hD hS 33 0 (wx_at (by omega) q1) rfl (inN) dL_different_42 (fun H locs hP hD hS => ?_)
        rw [clN (a := (nd f u v z))] at hP hD
        obtain ⟨ce1, hce1⟩ : ∃ z9, z9 = va_up cl 33 (.inl (cI, 512, .inl (upd gr1 (nd f u v z) (nI (w5 * 4096 + eq f w5 u v))))) := ⟨_, rfl⟩
        rw [wx_set (by omega), ← hce1] at hP hD
        have q13 : ce1 0 = .inr (2, [.ref (ad 1), .ref (ad 2), .ref (ad 33), .int (nI rl), .int (nI gc)]) := by rw [hce1, va_up_ne _ _ (by omega)]; exact ((fr2 0 (by omega)).trans h0)
        have q14 : ce1 2 = .inr (1, [.ref (ad 3), .ref (ad 4), .ref (ad 5), .int (nI n)]) := by rw [hce1, va_up_ne _ _ (by omega)]; exact ((fr2 2 (by omega)).trans hT.1)
        have q15 : ce1 33 = .inl (cI, 512, .inl (upd gr1 (nd f u v z) (nI (w5 * 4096 + eq f w5 u v)))) := by rw [hce1, va_up_self]
        have fr16 : ∀ j, j ≠ 33 → ce1 j = ce j := fun j h0 => by rw [hce1, va_up_ne _ _ h0]; exact fr2 j h0
        refine lv_iload_n hx hb dL_different_43 rfl (lv_at hl 1 rfl) ?_
        refine lv_aload_n hx hb dL_different_44 rfl (lv_at hl 2 rfl) ?_
        refine va_get (D := D) (ci := 2) (v := .ref (ad 33)) (C := RL) (T := TL) (N := 5) hx hb hA9 inL hown hK hP 0 (wx_at (by omega) q13) rfl 2 (by decide) (hA9 _ mfL_20) (fun _ h9 => h9) rfl dL_different_45 ?_
        refine lv_iload hx hb dL_different_48 (lv_at hl 0 rfl) ?_
        refine va_iald hx hb hK hP 33 0 (wx_at (by omega) q15) rfl (inN) dL_different_50 ?_
        refine lv_topi (fun z17 ez17 => ?_)
        obtain rfl : z17 = nI (w5 * 4096 + eq f w5 u v) := by rw [ez17, clN]; exact pk_us
        refine vp_callSi (va_runS (As := [.int (nI (w5 * 4096 + eq f w5 u v))]) (rest := [.int (nI (lq f z u v))]) ⟨hx, hb, hml, hown, hA9⟩ (c_L_timesIn l (w5 * 4096 + eq f w5 u v) (by omega)) (va_cwS 1 hA9 (gS mlL_87 mtL_timesIn mn_L mkL_timesIn) rfl rfl rfl (by decide +kernel) ⟨Nat.le_of_ble_eq_true rfl, Nat.le_of_ble_eq_true rfl⟩) ⟨P0_bl, P0_mk⟩ rfl rfl hl.1 rfl (lv_room (Nat.le_of_ble_eq_true rfl)) dL_different_51 ⟨Nat.le_of_ble_eq_true rfl, Nat.le_of_ble_eq_true rfl⟩).run (fun r18 hr18 => ?_)
        obtain rfl : r18 = nI (eq f w5 u v) := hr18.trans (congrArg nI (by omega))
        refine lv_iadd hx hb dL_different_54 ?_
        refine lv_topi (fun z19 ez19 => ?_)
        obtain rfl : z19 = nI (lq f (w5 + 1) u v) := by rw [ez19]; rw [nI_add, lq_s f w5 huv, kn2]
        refine lv_istore_n (lv' := [(3, .int (nI (lq f (w5 + 1) u v))), (4, .int (nI (nd f u v z))), (0, .ref (ad 0)), (1, .int (nI u)), (2, .int (nI v))]) hx hb dL_different_55 rfl hl (by decide) rfl (fun ls hl => ?_)
        refine lv_iinc (v := nI (nd f u v (w5 + 1))) (lv' := [(4, .int (nI (nd f u v (w5 + 1)))), (3, .int (nI (lq f (w5 + 1) u v))), (0, .ref (ad 0)), (1, .int (nI u)), (2, .int (nI v))]) hx hb dL_different_56 hl (k := 1) rfl ((nI_1 _).trans (congrArg nI (by rw [nd_s1 kn3, kn5]))) (by decide) rfl (fun ls hl => ?_)
        refine lv_goto (tgt := 11) hx hb dL_different_59 (by decide) ?_
        exact ih _ (by omega) (ls := ls) (cl := ce1) (H := H) (locs := locs) (z := w5 + 1) (gr1 := upd gr1 (nd f u v z) (nI (w5 * 4096 + eq f w5 u v))) (hP := hP) (hD := hD) (hS := hS) (hl := lv_sub hl [0, 1, 2, 3, 4] rfl) (J := ⟨(fun j g0 => fr16 j g0), q15, ⟨by omega, j2.next kn4 kn5⟩⟩) (hk9 := rfl)

set_option maxHeartbeats 4000000 in
set_option maxRecDepth 100000 in
theorem c_L_most (l : Launch) (hlt : l.stackTraces = false) (D : va_G) (cI cO cJ : ClassId) (N : Nat) (ad : Nat → Nat) (ce : Nat → va_E) (sz : Nat) (hN : 34 ≤ N) (os : Nat → Nat → Nat) (n : Nat) (hT : TR cI cO ad ce os n) (rl gc : Nat) (h0 : ce 0 = .inr (2, [.ref (ad 1), .ref (ad 2), .ref (ad 33), .int (nI rl), .int (nI gc)])) (f : Nat → Nat) (hW : WM f n os) (hf : ∀ i, i < n → f i < 512) (a b : Int32) : vx_Met l yL_most (.code yL_most bL_most 9 (some .int) :: WA) ({ frames := 7, cells := 1, slots := 6, locals := 112 }) (PX D (TY cI cO cJ) N ad ce sz [.ref (ad 0), .int (a), .int (b)]) (va_Qi (fun (r : Int32) (ce1 : Nat → va_E) => ce1 = ce ∧ ∃ u v o, u ≤ v ∧ v ≤ n ∧ a = nI u ∧ b = nI v ∧ r = bI o ∧ MM f u v 512 o) (BW D (TY cI cO cJ) N ad (AW N ad sz)) (AW N ad sz)) (XK (fun E => E = eI ∧ ¬ PA a b n)) 1 6 (AW N ad sz) := by
  refine vx_ofW (cc := bL_most) (maxL := 9) (ret := (some .int)) (by decide) rfl ?_
  intro p e s m args below meth c s₁ B hml htab hv
  obtain ⟨rfl, hsz, hP, hK, hD0, hE⟩ := hv
  have hx := B.exec
  have hb := B.bytes
  have hr := B.returns
  have hA9 : ∀ w ∈ WA, w.before _ s = true := fun w h => atoms_spec (ws := .code yL_most bL_most 9 (some .int) :: WA) B.pre w (List.mem_cons_of_mem _ h)
  have hown : s.vm.findClass RL = some m.cls := findClass_of_methodNamed B.named
  have hlocks := B.notSynchronized
  subst hsz
  have hD := aw_D (sz := s.heap.size) hD0
  generalize hAe : AW N ad s.heap.size = A at hD hE ⊢
  have hA : ∀ q, s.heap.size ≤ q → A q := fun q h => by rw [← hAe]; exact Or.inr h
  clear hAe hD0
  obtain ⟨-, -, ⟨g39, s39⟩, ⟨g52, s52⟩, ⟨g92, s92⟩, ⟨g94, s94⟩, ⟨g70, s70⟩, ⟨g76, s76⟩, ⟨g90, s90⟩, -⟩ := id hE
  have hl := lv_entry ([.ref (ad 0), .int (a), .int (b)]) (n := 9) (Nat.le_of_ble_eq_true rfl)
  rw [lg_entry_eq]
  generalize (lg_sl ([.ref (ad 0), .int (a), .int (b)]) ++ List.replicate (9 - (lg_sl ([.ref (ad 0), .int (a), .int (b)])).length) Slot.unset).toArray = ls at hl ⊢
  have hl : lv_has ls 9 [(0, .ref (ad 0)), (1, .int (a)), (2, .int (b))] := hl
  refine st0 (A := A) (fun H locs hS hH => ?_)
  have hU : ∀ q : Nat, q < s.heap.size → H[q]? = s.heap[q]? := fun q _ => by rw [hH]
  rw [← hH] at hP
  clear hH
  have hn := hT.2.2.2
  refine lv_aload_n hx hb dL_most_0 rfl (lv_at hl 0 rfl) ?_
  refine lv_iload_n hx hb dL_most_1 rfl (lv_at hl 1 rfl) ?_
  refine lv_iload_n hx hb dL_most_2 rfl (lv_at hl 2 rfl) ?_
  refine chk (P0 := fun E => E = eI ∧ ¬ PA (a) (b) n) hlocks htab (vx_runV (As := [.int (a), .int (b)]) (rest := []) ⟨hx, hb, hml, hown, hA9⟩ (c_L_checkPart l hlt D cI cO cJ N ad ce H.size hN os n hT rl gc h0 (a) (b)) (cwV 2 hA9 (gV mlL_63 miL_checkPart msL_checkPart mn_L mkL_checkPart) rfl rfl rfl (by decide +kernel) ⟨Nat.le_of_ble_eq_true rfl, Nat.le_of_ble_eq_true rfl⟩) ⟨PX_bl, wx_recv hK hP (by omega) h0 rfl, PX_mk hK hP hD hE hS hA⟩ rfl rfl hl.1 rfl (lv_room (Nat.le_of_ble_eq_true rfl)) dL_most_3 ⟨Nat.le_of_ble_eq_true rfl, Nat.le_of_ble_eq_true rfl⟩) hS hP hD hA hU (fun E h => h) (by decide) (by decide) (fun H locs hq hP hS hU => ?_)
  obtain ⟨u, v, huv, hv, rfl, rfl⟩ := hq
  refine lv_iconst (v := bI none) hx hb dL_most_6 (by decide +kernel) ?_
  refine lv_istore_n (lv' := [(3, .int (bI none)), (0, .ref (ad 0)), (1, .int (nI u)), (2, .int (nI v))]) hx hb dL_most_7 rfl hl (by decide) rfl (fun ls hl => ?_)
  refine lv_iconst (v := nI (bT f u v none)) hx hb dL_most_8 (by rw [show bT f u v none = 0 from rfl]; decide +kernel) ?_
  refine lv_istore (lv' := [(4, .int (nI (bT f u v none))), (3, .int (bI none)), (0, .ref (ad 0)), (1, .int (nI u)), (2, .int (nI v))]) hx hb dL_most_9 hl (by decide) rfl (fun ls hl => ?_)
  refine lv_iconst (v := nI (lq f 0 u v)) hx hb dL_most_11 (by rw [lq_0 f huv]; decide +kernel) ?_
  refine lv_istore (lv' := [(5, .int (nI (lq f 0 u v))), (4, .int (nI (bT f u v none))), (3, .int (bI none)), (0, .ref (ad 0)), (1, .int (nI u)), (2, .int (nI v))]) hx hb dL_most_12 hl (by decide) rfl (fun ls hl => ?_)
  refine lv_iconst (v := nI (nd f u v 0)) hx hb dL_most_14 (by rw [show nd f u v 0 = 0 from rfl]; decide +kernel) ?_
  refine lv_istore (lv' := [(6, .int (nI (nd f u v 0))), (5, .int (nI (lq f 0 u v))), (4, .int (nI (bT f u v none))), (3, .int (bI none)), (0, .ref (ad 0)), (1, .int (nI u)), (2, .int (nI v))]) hx hb dL_most_15 hl (by decide) rfl (fun ls hl => ?_)
  obtain ⟨z, hz0⟩ : ∃ z : Nat, (0) = z := ⟨_, rfl⟩
  obtain ⟨o, ho0⟩ : ∃ z : Option Nat, (none) = z := ⟨_, rfl⟩
  replace hl : lv_has ls 9 [(6, .int (nI (nd f u v z))), (5, .int (nI (lq f z u v))), (4, .int (nI (bT f u v o))), (3, .int (bI o)), (0, .ref (ad 0)), (1, .int (nI u)), (2, .int (nI v))] := by subst hz0 ho0; exact lv_sub hl [0, 1, 2, 3, 4, 5, 6] rfl
  have J : z ≤ 512 ∧ MM f u v z o := by subst hz0 ho0; exact ⟨by omega, MM.z⟩
  clear hz0
  clear ho0
  obtain ⟨k9, hk9⟩ : ∃ z9 : Nat, z9 = 512 - z := ⟨_, rfl⟩
  induction k9 using Nat.strongRecOn generalizing z o ls with
  | ind k9 ih =>
    obtain ⟨j1, j2⟩ := J
    have ndz := nd_le f u v z
    have lz := lq_le f z huv
    have btl := bT_le f o huv
    refine lv_iload hx hb dL_most_17 (lv_at hl 0 rfl) ?_
    refine lv_sipush (v := nI 512) hx hb dL_most_19 (by decide +kernel) ?_
    refine lv_icmp_ge (tgt := 83) hx hb dL_most_22 (by decide) (fun c22 => ?_) (fun c22 => ?_)
    · skip
      have d1 := leN c22
      have hz9 : z = 512 := by omega
      have fl : ∀ t, z ≤ t → t < 512 → eq f t u v = 0 := fun t q1 q2 => absurd q2 (by omega)
      refine lv_iload_n hx hb dL_most_83 rfl (lv_at hl 3 rfl) ?_
      refine W.widen (k := 1) (n := 6) (by decide) (by decide) ?_
      refine vx_ret ?_
      exact W.iret (v := (bI o)) hx hb hr (fun t ht hW => ⟨⟨(bI o), ce, rfl, ⟨rfl, u, v, o, huv, hv, rfl, rfl, rfl, j2.ext j1 fl⟩, by rw [ht]; exact hP, va_K.moved hW.alike hK, hD⟩, hS.F ht⟩) hS.2.2 dL_most_84
    · skip
      have d1 := nleN c22
      refine lv_iload hx hb dL_most_25 (lv_at hl 1 rfl) ?_
      refine lv_iload_n hx hb dL_most_27 rfl (lv_at hl 6 rfl) ?_
      refine lv_iload_n hx hb dL_most_28 rfl (lv_at hl 5 rfl) ?_
      refine lv_isub hx hb dL_most_29 ?_
      refine lv_topi (fun z1 ez1 => ?_)
      obtain rfl : z1 = nI (v - u) := by rw [ez1]; exact pk_sub huv
      refine lv_icmp_ge (tgt := 83) hx hb dL_most_30 (by decide) (fun c30 => ?_) (fun c30 => ?_)
      · skip
        have d2 := leN c30
        have fl : ∀ t, z ≤ t → t < 512 → eq f t u v = 0 := lq_flat huv (by rw [lq_512 hf huv hv]; exact d2)
        refine lv_iload_n hx hb dL_most_83 rfl (lv_at hl 3 rfl) ?_
        refine W.widen (k := 1) (n := 6) (by decide) (by decide) ?_
        refine vx_ret ?_
        exact W.iret (v := (bI o)) hx hb hr (fun t ht hW => ⟨⟨(bI o), ce, rfl, ⟨rfl, u, v, o, huv, hv, rfl, rfl, rfl, j2.ext j1 fl⟩, by rw [ht]; exact hP, va_K.moved hW.alike hK, hD⟩, hS.F ht⟩) hS.2.2 dL_most_84
      · skip
        have d2 := nleN c30
        refine lv_aload_n hx hb dL_most_33 rfl (lv_at hl 4 rfl) ?_
        refine va_get (D := D) (ci := 2) (v := .ref (ad 2)) (C := RL) (T := TL) (N := 5) hx hb hA9 inL hown hK hP 0 (wx_at (by omega) h0) rfl 1 (by decide) (hA9 _ mfL_16) (fun _ h9 => h9) rfl dL_most_34 ?_
        refine lv_iload_n hx hb dL_most_37 rfl (lv_at hl 5 rfl) ?_
        refine lv_iload_n hx hb dL_most_38 rfl (lv_at hl 6 rfl) ?_
        refine lv_iload hx hb dL_most_39 (lv_at hl 1 rfl) ?_
        refine vp_callSi (va_runV (As := [.int (nI u), .int (nI v), .int (nI (lq f z u v))]) (rest := []) ⟨hx, hb, hml, hown, hA9⟩ (c_T_groupOf l D cI cO cJ N ad ce (by omega) os n hT f hW hf u v huv hv (lq f z u v) (by omega)) (cwV 3 hA9 (gV mlL_78 miT_groupOf msT_groupOf mn_T mkT_groupOf) rfl rfl rfl (by decide +kernel) ⟨Nat.le_of_ble_eq_true rfl, Nat.le_of_ble_eq_true rfl⟩) ⟨PR_bl, wx_recv hK hP (by omega) hT.1 rfl, PR_mk hK hP⟩ rfl rfl hl.1 rfl (lv_room (Nat.le_of_ble_eq_true rfl)) dL_most_41 ⟨Nat.le_of_ble_eq_true rfl, Nat.le_of_ble_eq_true rfl⟩).run (fun r2 hr2 => ?_)
        obtain ⟨w5, rfl, hkt, hw5⟩ := hr2
        have el := eq_le f w5 huv
        obtain ⟨kn1, kn2, kn3, kn4, kn5⟩ := kt_next huv hkt
        have ndl := nd_le f u v w5
        have jy := j2.ext kn1 kn4
        refine lv_istore (lv' := [(7, .int (nI (w5 * 4096 + eq f w5 u v))), (6, .int (nI (nd f u v z))), (5, .int (nI (lq f z u v))), (4, .int (nI (bT f u v o))), (3, .int (bI o)), (0, .ref (ad 0)), (1, .int (nI u)), (2, .int (nI v))]) hx hb dL_most_44 hl (by decide) rfl (fun ls hl => ?_)
        refine lv_iload hx hb dL_most_46 (lv_at hl 0 rfl) ?_
        refine vp_callSi (va_runS (As := [.int (nI (w5 * 4096 + eq f w5 u v))]) (rest := []) ⟨hx, hb, hml, hown, hA9⟩ (c_L_timesIn l (w5 * 4096 + eq f w5 u v) (by omega)) (va_cwS 1 hA9 (gS mlL_87 mtL_timesIn mn_L mkL_timesIn) rfl rfl rfl (by decide +kernel) ⟨Nat.le_of_ble_eq_true rfl, Nat.le_of_ble_eq_true rfl⟩) ⟨P0_bl, P0_mk⟩ rfl rfl hl.1 rfl (lv_room (Nat.le_of_ble_eq_true rfl)) dL_most_48 ⟨Nat.le_of_ble_eq_true rfl, Nat.le_of_ble_eq_true rfl⟩).run (fun r3 hr3 => ?_)
        obtain rfl : r3 = nI (eq f w5 u v) := hr3.trans (congrArg nI (by omega))
        refine lv_istore (lv' := [(8, .int (nI (eq f w5 u v))), (7, .int (nI (w5 * 4096 + eq f w5 u v))), (6, .int (nI (nd f u v z))), (5, .int (nI (lq f z u v))), (4, .int (nI (bT f u v o))), (3, .int (bI o)), (0, .ref (ad 0)), (1, .int (nI u)), (2, .int (nI v))]) hx hb dL_most_51 hl (by decide) rfl (fun ls hl => ?_)
        refine lv_iload hx hb dL_most_53 (lv_at hl 0 rfl) ?_
        refine lv_iload hx hb dL_most_55 (lv_at hl 4 rfl) ?_
        refine lv_icmp_le (tgt := 70) hx hb dL_most_57 (by decide) (fun c57 => ?_) (fun c57 => ?_)
        · skip
          have d3 := leN c57
          have jn : MM f u v (w5 + 1) o := jy.skip (Or.inr (by
            cases o with
            | none => exact absurd d3 (by show ¬ eq f w5 u v ≤ 0; omega)
            | some b => exact ⟨b, rfl, d3⟩))
          refine lv_iload hx hb dL_most_70 (lv_at hl 3 rfl) ?_
          refine lv_iload hx hb dL_most_72 (lv_at hl 0 rfl) ?_
          refine lv_iadd hx hb dL_most_74 ?_
          refine lv_topi (fun z4 ez4 => ?_)
          obtain rfl : z4 = nI (lq f (w5 + 1) u v) := by rw [ez4]; rw [nI_add, lq_s f w5 huv, kn2]
          refine lv_istore (lv' := [(5, .int (nI (lq f (w5 + 1) u v))), (8, .int (nI (eq f w5 u v))), (7, .int (nI (w5 * 4096 + eq f w5 u v))), (6, .int (nI (nd f u v z))), (4, .int (nI (bT f u v o))), (3, .int (bI o)), (0, .ref (ad 0)), (1, .int (nI u)), (2, .int (nI v))]) hx hb dL_most_75 hl (by decide) rfl (fun ls hl => ?_)
          refine lv_iinc (v := nI (nd f u v (w5 + 1))) (lv' := [(6, .int (nI (nd f u v (w5 + 1)))), (5, .int (nI (lq f (w5 + 1) u v))), (8, .int (nI (eq f w5 u v))), (7, .int (nI (w5 * 4096 + eq f w5 u v))), (4, .int (nI (bT f u v o))), (3, .int (bI o)), (0, .ref (ad 0)), (1, .int (nI u)), (2, .int (nI v))]) hx hb dL_most_77 hl (k := 3) rfl ((nI_1 _).trans (congrArg nI (by rw [nd_s1 kn3, kn5]))) (by decide) rfl (fun ls hl => ?_)
          refine lv_goto (tgt := 17) hx hb dL_most_80 (by decide) ?_
          exact ih _ (by omega) (ls := ls) (z := w5 + 1) (o := o) (lv_sub hl [0, 1, 4, 5, 6, 7, 8] rfl) (⟨by omega, jn⟩) rfl
        · skip
          have d3 := nleN c57
          have jn : MM f u v (w5 + 1) (some w5) := jy.take kn3 (fun b hb9 => by subst hb9; exact d3)
          refine lv_iload hx hb dL_most_60 (lv_at hl 1 rfl) ?_
          refine vp_callSi (va_runS (As := [.int (nI (w5 * 4096 + eq f w5 u v))]) (rest := []) ⟨hx, hb, hml, hown, hA9⟩ (c_L_numberOf l (w5 * 4096 + eq f w5 u v) (by omega)) (va_cwS 1 hA9 (gS mlL_81 mtL_numberOf mn_L mkL_numberOf) rfl rfl rfl (by decide +kernel) ⟨Nat.le_of_ble_eq_true rfl, Nat.le_of_ble_eq_true rfl⟩) ⟨P0_bl, P0_mk⟩ rfl rfl hl.1 rfl (lv_room (Nat.le_of_ble_eq_true rfl)) dL_most_62 ⟨Nat.le_of_ble_eq_true rfl, Nat.le_of_ble_eq_true rfl⟩).run (fun r5 hr5 => ?_)
          obtain rfl : r5 = bI (some w5) := hr5.trans (congrArg nI (by omega))
          refine lv_istore_n (lv' := [(3, .int (bI (some w5))), (8, .int (nI (eq f w5 u v))), (7, .int (nI (w5 * 4096 + eq f w5 u v))), (6, .int (nI (nd f u v z))), (5, .int (nI (lq f z u v))), (4, .int (nI (bT f u v o))), (0, .ref (ad 0)), (1, .int (nI u)), (2, .int (nI v))]) hx hb dL_most_65 rfl hl (by decide) rfl (fun ls hl => ?_)
          refine lv_iload hx hb dL_most_66 (lv_at hl 1 rfl) ?_
          refine lv_istore (lv' := [(4, .int (nI (eq f w5 u v))), (3, .int (bI (some w5))), (8, .int (nI (eq f w5 u v))), (7, .int (nI (w5 * 4096 + eq f w5 u v))), (6, .int (nI (nd f u v z))), (5, .int (nI (lq f z u v))), (0, .ref (ad 0)), (1, .int (nI u)), (2, .int (nI v))]) hx hb dL_most_68 hl (by decide) rfl (fun ls hl => ?_)
          refine lv_iload hx hb dL_most_70 (lv_at hl 5 rfl) ?_
          refine lv_iload hx hb dL_most_72 (lv_at hl 2 rfl) ?_
          refine lv_iadd hx hb dL_most_74 ?_
          refine lv_topi (fun z6 ez6 => ?_)
          obtain rfl : z6 = nI (lq f (w5 + 1) u v) := by rw [ez6]; rw [nI_add, lq_s f w5 huv, kn2]
          refine lv_istore (lv' := [(5, .int (nI (lq f (w5 + 1) u v))), (4, .int (nI (eq f w5 u v))), (3, .int (bI (some w5))), (8, .int (nI (eq f w5 u v))), (7, .int (nI (w5 * 4096 + eq f w5 u v))), (6, .int (nI (nd f u v z))), (0, .ref (ad 0)), (1, .int (nI u)), (2, .int (nI v))]) hx hb dL_most_75 hl (by decide) rfl (fun ls hl => ?_)
          refine lv_iinc (v := nI (nd f u v (w5 + 1))) (lv' := [(6, .int (nI (nd f u v (w5 + 1)))), (5, .int (nI (lq f (w5 + 1) u v))), (4, .int (nI (eq f w5 u v))), (3, .int (bI (some w5))), (8, .int (nI (eq f w5 u v))), (7, .int (nI (w5 * 4096 + eq f w5 u v))), (0, .ref (ad 0)), (1, .int (nI u)), (2, .int (nI v))]) hx hb dL_most_77 hl (k := 5) rfl ((nI_1 _).trans (congrArg nI (by rw [nd_s1 kn3, kn5]))) (by decide) rfl (fun ls hl => ?_)
          refine lv_goto (tgt := 17) hx hb dL_most_80 (by decide) ?_
          exact ih _ (by omega) (ls := ls) (z := w5 + 1) (o := some w5) (lv_sub hl [0, 1, 2, 3, 6, 7, 8] rfl) (⟨by omega, jn⟩) rfl
