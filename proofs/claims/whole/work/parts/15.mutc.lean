set_option maxHeartbeats 4000000 in
set_option maxRecDepth 100000 in
theorem c_F_fill (l : Launch) (D : va_G) (cI cO cJ : ClassId) (N : Nat) (ad : Nat → Nat) (ce : Nat → va_E) (sz : Nat) (k : Nat) (hk : k < N) (n : Nat) (hn : n ≤ 4000) (g : Nat → Int32) (h0 : ce k = .inl (cI, n, .inl g)) (x : Int32) : Met l yF_fill (.code yF_fill bF_fill 4 none :: WA) ({ frames := 0, cells := 0, slots := 0, locals := 0 }) (PM D (TY cI cO cJ) N ad ce sz [.ref (ad k), .int (x)]) (va_Qv (fun (ce1 : Nat → va_E) => (∀ j, j ≠ k → ce1 j = ce j) ∧ ∃ g1 : Nat → Int32, ce1 k = .inl (cI, n, .inl g1) ∧ ∀ i, i < n → g1 i = x) (BW D (TY cI cO cJ) N ad (AW N ad sz)) (AW N ad sz)) 0 0 (AW N ad sz) := by
  refine Met.ofW (cc := bF_fill) (maxL := 4) (ret := none) (by decide) rfl ?_
  intro p e s m args below meth c s₁ B hml hv
  obtain ⟨rfl, hsz, hP, hK, hD0⟩ := hv
  have hx := B.exec
  have hb := B.bytes
  have hr := B.returns
  have hA9 : ∀ w ∈ WA, w.before _ s = true := fun w h => atoms_spec (ws := .code yF_fill bF_fill 4 none :: WA) B.pre w (List.mem_cons_of_mem _ h)
  have hown : s.vm.findClass RF = some m.cls := findClass_of_methodNamed B.named
  have hlocks := B.notSynchronized
  subst hsz
  have hD := aw_D (sz := s.heap.size) hD0
  generalize hAe : AW N ad s.heap.size = A at hD ⊢
  have hA : ∀ q, s.heap.size ≤ q → A q := fun q h => by rw [← hAe]; exact Or.inr h
  clear hAe hD0
  have hl := lv_entry ([.ref (ad k), .int (x)]) (n := 4) (Nat.le_of_ble_eq_true rfl)
  rw [lg_entry_eq]
  generalize (lg_sl ([.ref (ad k), .int (x)]) ++ List.replicate (4 - (lg_sl ([.ref (ad k), .int (x)])).length) Slot.unset).toArray = ls at hl ⊢
  have hl : lv_has ls 4 [(0, .ref (ad k)), (1, .int (x))] := hl
  refine st0 (A := A) (fun H locs hS hH => ?_)
  rw [← hH] at hP
  clear hH
  refine lv_iconst (v := nI 0) hx hb dF_fill_0 (by decide +kernel) ?_
  refine lv_istore_n (lv' := [(2, .int (nI 0)), (0, .ref (ad k)), (1, .int (x))]) hx hb dF_fill_1 rfl hl (by decide) rfl (fun ls hl => ?_)
  refine lv_aload_n hx hb dF_fill_2 rfl (lv_at hl 1 rfl) ?_
  refine va_alen (v := nI n) hx hb hK hP k 0 (wx_at (by omega) h0) rfl rfl dF_fill_3 ?_
  refine lv_istore_n (lv' := [(3, .int (nI n)), (2, .int (nI 0)), (0, .ref (ad k)), (1, .int (x))]) hx hb dF_fill_4 rfl hl (by decide) rfl (fun ls hl => ?_)
  obtain ⟨cl, hcl0⟩ : ∃ z : Nat → va_E, ce = z := ⟨_, rfl⟩
  obtain ⟨i, hi0⟩ : ∃ z : Nat, 0 = z := ⟨_, rfl⟩
  obtain ⟨g1, hg10⟩ : ∃ z : Nat → Int32, g = z := ⟨_, rfl⟩
  replace hl : lv_has ls 4 [(3, .int (nI n)), (2, .int (nI i)), (0, .ref (ad k)), (1, .int (x))] := by subst hi0 hg10; exact lv_sub hl [0, 1, 2, 3] rfl
  have J : (∀ j, j ≠ k → cl j = ce j) ∧ cl k = .inl (cI, n, .inl g1) ∧ i ≤ n ∧ ∀ j, j < i → g1 j = x := by
    subst hcl0 hi0 hg10
    exact ⟨(fun j g0 => rfl), h0, ⟨by omega, fun j h => absurd h (by omega)⟩⟩
  rw [hcl0] at hP hD
  clear hcl0 hi0 hg10
  obtain ⟨k9, hk9⟩ : ∃ z : Nat, z = n - i := ⟨_, rfl⟩
  induction k9 using Nat.strongRecOn generalizing i g1 cl H locs ls with
  | ind k9 ih =>
    obtain ⟨fr2, q1, JJ⟩ := J
    obtain ⟨j1, j2⟩ := JJ
    refine lv_iload_n hx hb dF_fill_5 rfl (lv_at hl 1 rfl) ?_
    refine lv_iload_n hx hb dF_fill_6 rfl (lv_at hl 0 rfl) ?_
    refine lv_icmp_ge (tgt := 20) hx hb dF_fill_7 (by decide) (fun c7 => ?_) (fun c7 => ?_)
    · skip
      have d1 := leN c7
      exact W.vret hx hb hr (fun t ht hW => ⟨⟨cl, rfl, ⟨fr2, g1, q1, fun j hj => j2 j (by omega)⟩, by rw [ht]; exact hP, va_K.moved hW.alike hK, hD⟩, hS.F ht⟩) hS.2.2 dF_fill_20
    · skip
      have d1 := nleN c7
      refine lv_aload_n hx hb dF_fill_10 rfl (lv_at hl 2 rfl) ?_
      refine lv_iload_n hx hb dF_fill_11 rfl (lv_at hl 1 rfl) ?_
      refine lv_iload_n hx hb dF_fill_12 rfl (lv_at hl 3 rfl) ?_
      refine va_iast hx hb hK hP hD hS k 0 (wx_at (by omega) q1) rfl (inN) dF_fill_13 (fun H locs hP hD hS => ?_)
      rw [clN (a := i)] at hP hD
      obtain ⟨ce1, hce1⟩ : ∃ z, z = va_up cl k (.inl (cI, n, .inl (upd g1 i (x)))) := ⟨_, rfl⟩
      rw [wx_set (by omega), ← hce1] at hP hD
      have q3 : ce1 k = .inl (cI, n, .inl (upd g1 i (x))) := by rw [hce1, va_up_self]
      have fr4 : ∀ j, j ≠ k → ce1 j = ce j := fun j h0 => by rw [hce1, va_up_ne _ _ h0]; exact fr2 j h0
      refine lv_iinc (v := nI (i + 1)) (lv' := [(2, .int (nI (i + 1))), (3, .int (nI n)), (0, .ref (ad k)), (1, .int (x))]) hx hb dF_fill_14 hl (k := 1) rfl (nI_1 i) (by decide) rfl (fun ls hl => ?_)
      refine lv_goto (tgt := 5) hx hb dF_fill_17 (by decide) ?_
      exact ih _ (by omega) (ls := ls) (cl := ce1) (H := H) (locs := locs) (i := i + 1) (g1 := upd g1 i x) (hP := hP) (hD := hD) (hS := hS) (hl := lv_sub hl [1, 0, 2, 3] rfl) (J := ⟨(fun j g0 => fr4 j g0), q3, ⟨by omega, fun j hj => by unfold upd; split; rfl; exact j2 j (by omega)⟩⟩) (hk9 := rfl)
