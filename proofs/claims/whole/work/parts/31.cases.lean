section
variable {p : Program} {l : Launch} {e : Env} {s : State} {m : MethodId} {below : List Frame} {meth : Method} {c : Code} {H : Heap} {locs : List Loc} {cells slots : Nat} {Q : State → Prop} {D : va_G} {cI cO cJ : ClassId} {ad : Nat → Nat} {ce : Nat → va_E} {A : Nat → Prop} {ls : Array Slot} {b L : Nat} {xs : Nat → Int32}

theorem or_rot {a b c : Prop} (h : a ∨ b ∨ c) : c ∨ a ∨ b := by
  rcases h with h | h | h
  · exact Or.inr (Or.inl h)
  · exact Or.inr (Or.inr h)
  · exact Or.inl h

set_option maxHeartbeats 4000000 in
set_option maxRecDepth 100000 in
theorem q_at (C : LX p l s m c b L xs D cI cO cJ A) {i : Nat} (hi : i + 4 ≤ L) (hL : L ≤ 2048) {rl : Nat} (hI : INV cI cO cJ ad ce rl) (hrl : rl ≤ 1533) (hc : cells + 2 ≤ 601024) (hs : slots + 12 ≤ 7293034) (hP : va_P D CLS (wx 41 ad ce) H) (hD : va_D A (wx 41 ad ce)) (hS : va_S A s.heap H locs) (hl : lv_has ls 7 [(4, .int (nI i)), (3, .ref (ad 40)), (2, .ref (ad 34)), (1, .ref (ad 0)), (0, .ref b)])
    (kk : ∀ (ce1 : Nat → va_E) (rl1 : Nat) (H : Heap) (locs : List Loc) (ls : Array Slot), INV cI cO cJ ad ce1 rl1 → rl1 ≤ rl + 3 → va_P D CLS (wx 41 ad ce1) H → va_D A (wx 41 ad ce1) → va_S A s.heap H locs → lv_has ls 7 [(4, .int (nI i)), (3, .ref (ad 40)), (2, .ref (ad 34)), (1, .ref (ad 0)), (0, .ref b)] → W p l e room_1 s m #[Value.ref b] below meth c H locs (cells + 2) (slots + 12) Q (F0 m 914 ls [])) : W p l e room_1 s m #[Value.ref b] below meth c H locs cells slots Q (F0 m 253 ls []) := by
  obtain ⟨hx, hb, hml, hown, hA9, hX, hbl, hlt, hK, hE, hA, hbA⟩ := id C
  obtain ⟨os, n, f, gc, row, o4, o5, gr, mt, cg9, ga, gb, th, wv, tv, g, hV⟩ := hI
  obtain ⟨hT, hW, hf, i0, i1, hr5, ⟨i4, h4⟩, ⟨i5, h5⟩, i33, hgc, i34, i35, i36, hmt, i37, i38, i39, hwt, i40⟩ := id hV
  have hn := hT.2.2.2
  refine lv_aload_n hx hb dW_law_253 rfl (lv_at hl 3 rfl) ?_
  refine lv_aload_n hx hb dW_law_254 rfl (lv_at hl 4 rfl) ?_
  refine lv_iload hx hb dW_law_255 (lv_at hl 0 rfl) ?_
  refine lv_iconst (v := nI 1) hx hb dW_law_257 (by decide +kernel) ?_
  refine lv_iadd hx hb dW_law_258 ?_
  refine lv_topi (fun z1 e1 => ?_)
  obtain rfl : z1 = nI (i + 1) := by rw [e1]; exact nI_add _ _
  refine va_sld hx hb hX hbl hbA hS (inN) dW_law_259 ?_
  refine lv_topi (fun z2 e2 => ?_)
  obtain rfl : z2 = xs (i + 1) := by rw [e2, clN]
  refine lv_aload_n hx hb dW_law_260 rfl (lv_at hl 1 rfl) ?_
  refine cvi (vx_runSW (As := [.ref (ad 0), .int (xs (i + 1)), .ref (ad 40)]) (rest := []) ⟨hx, hb, hml, hown, hA9⟩ (c_W_at l hlt D cI cO cJ ad ce _ os n hT rl gc i0 f hW hf g i40 (xs (i + 1))) (vx_cwSW 3 hA9 (gSW mlW_73 mtW_at mn_W mkW_at) rfl rfl rfl (by decide +kernel) ⟨Nat.le_of_ble_eq_true rfl, Nat.le_of_ble_eq_true rfl⟩) ⟨PX_bl, PX_mk hK hP hD hE hS hA⟩ rfl rfl hl.1 rfl (lv_room (Nat.le_of_ble_eq_true rfl)) dW_law_261 ⟨by show cells + 1 ≤ 601024; omega, by show slots + 6 ≤ 7293034; omega⟩) hS hD hA (fun r5 ce1 H locs hq1 hP hD hS => ?_)
  have fr1 : ∀ j, j ≠ 40 → ce1 j = ce j := fun j q0  => by
    rcases hq1 with ⟨-, r1, ce2, g1, ⟨hce, -⟩, fr, -⟩ | ⟨-, hce, -⟩
    · rw [fr j q0, hce]
    · rw [hce]
  refine lv_istore (lv' := [(5, .int r5), (4, .int (nI i)), (3, .ref (ad 40)), (2, .ref (ad 34)), (1, .ref (ad 0)), (0, .ref b)]) hx hb dW_law_264 hl (by decide) rfl (fun ls hl => ?_)
  refine lv_aload_n hx hb dW_law_266 rfl (lv_at hl 3 rfl) ?_
  refine lv_aload_n hx hb dW_law_267 rfl (lv_at hl 5 rfl) ?_
  refine lv_iload hx hb dW_law_268 (lv_at hl 1 rfl) ?_
  refine lv_iconst (v := nI 1) hx hb dW_law_270 (by decide +kernel) ?_
  refine lv_iadd hx hb dW_law_271 ?_
  refine lv_topi (fun z3 e3 => ?_)
  obtain rfl : z3 = nI (i + 1) := by rw [e3]; exact nI_add _ _
  refine va_sld hx hb hX hbl hbA hS (inN) dW_law_272 ?_
  refine lv_topi (fun z4 e4 => ?_)
  obtain rfl : z4 = xs (i + 1) := by rw [e4, clN]
  refine cvi (va_runV (As := [.int (xs (i + 1))]) (rest := []) ⟨hx, hb, hml, hown, hA9⟩ (c_M_at l D cI cO cJ 41 ad ce1 _ (by omega) th rl n gc ((fr1 34 (by omega)).trans i34) mt ((fr1 36 (by omega)).trans i36) hn (xs (i + 1))) (cwV 1 hA9 (gV mlW_75 miM_at msM_at mn_M mkM_at) rfl rfl rfl (by decide +kernel) ⟨Nat.le_of_ble_eq_true rfl, Nat.le_of_ble_eq_true rfl⟩) ⟨PM_bl, wx_recv hK hP (by omega) (((fr1 34 (by omega)).trans i34)) rfl, PM_mk hK hP hD⟩ rfl rfl hl.1 rfl (lv_room (Nat.le_of_ble_eq_true rfl)) dW_law_273 ⟨by show cells + 1 + 0 ≤ 601024; omega, by show slots + 6 + 0 ≤ 7293034; omega⟩) hS hD hA (fun r6 ce3 H locs hq2 hP hD hS => ?_)
  refine lv_istore (lv' := [(6, .int r6), (5, .int r5), (4, .int (nI i)), (3, .ref (ad 40)), (2, .ref (ad 34)), (1, .ref (ad 0)), (0, .ref b)]) hx hb dW_law_276 hl (by decide) rfl (fun ls hl => ?_)
  obtain ⟨fr3, hq2⟩ := hq2
  rcases hq1 with ⟨e5, r1, ce2, g1, ⟨-, k, k1, k2, k3⟩, fr, k40, hg⟩ | ⟨e5, hce, no⟩
  · rcases hq2 with ⟨k9, j1, j2, j3, m34⟩ | ⟨no2, -, m34⟩
    · skip
      obtain rfl : k = k9 := eqN (k2.symm.trans j2)
      refine tail C (off := 608) (by show cells + 1 + 0 ≤ 601024; omega) (by show slots + 6 + 0 ≤ 7293034; omega) hP (m34) ((fr3 40 (by omega)).trans k40) hl dW_law_278 dW_law_279 dW_law_282 dW_law_284 dW_law_289 dW_law_291 dW_law_294 dW_law_295 dW_law_296 dW_law_297 dW_law_299 dW_law_300 dW_law_301 dW_law_306 (by decide) (e5.symm) (fun _ => by rw [hg, k3, j3, hmt k k1]) ?_
      refine W.widen (k := cells + 2) (n := slots + 12) (by omega) (by omega) ?_
      exact kk ce3 rl H locs ls (hV.q (fun j a1 a2 a3 => (fr3 j a1).trans (fr1 j a3)) m34 ((fr3 37 (by omega)).trans ((fr1 37 (by omega)).trans i37)) ((fr3 40 (by omega)).trans k40)) (by omega) hP hD hS (lv_sub hl [2, 3, 4, 5, 6] rfl)
    · exact absurd ⟨k, k1, k2⟩ no2
  · rcases hq2 with ⟨k9, j1, j2, j3, m34⟩ | ⟨no2, -, m34⟩
    · exact absurd ⟨k9, j1, j2⟩ no
    · skip
      refine tail C (off := 608) (by show cells + 1 + 0 ≤ 601024; omega) (by show slots + 6 + 0 ≤ 7293034; omega) hP (m34) ((fr3 40 (by omega)).trans ((congrFun hce 40).trans i40)) hl dW_law_278 dW_law_279 dW_law_282 dW_law_284 dW_law_289 dW_law_291 dW_law_294 dW_law_295 dW_law_296 dW_law_297 dW_law_299 dW_law_300 dW_law_301 dW_law_306 (by decide) (e5.symm) (fun q9 => absurd (e5.symm.trans q9) (by decide +kernel)) ?_
      refine W.widen (k := cells + 2) (n := slots + 12) (by omega) (by omega) ?_
      exact kk ce3 rl H locs ls (hV.q (fun j a1 a2 a3 => (fr3 j a1).trans (fr1 j a3)) m34 ((fr3 37 (by omega)).trans ((fr1 37 (by omega)).trans i37)) ((fr3 40 (by omega)).trans ((congrFun hce 40).trans i40))) (by omega) hP hD hS (lv_sub hl [2, 3, 4, 5, 6] rfl)

set_option maxHeartbeats 4000000 in
set_option maxRecDepth 100000 in
theorem q_number (C : LX p l s m c b L xs D cI cO cJ A) {i : Nat} (hi : i + 4 ≤ L) (hL : L ≤ 2048) {rl : Nat} (hI : INV cI cO cJ ad ce rl) (hrl : rl ≤ 1533) (hc : cells + 2 ≤ 601024) (hs : slots + 12 ≤ 7293034) (hP : va_P D CLS (wx 41 ad ce) H) (hD : va_D A (wx 41 ad ce)) (hS : va_S A s.heap H locs) (hl : lv_has ls 7 [(4, .int (nI i)), (3, .ref (ad 40)), (2, .ref (ad 34)), (1, .ref (ad 0)), (0, .ref b)])
    (kk : ∀ (ce1 : Nat → va_E) (rl1 : Nat) (H : Heap) (locs : List Loc) (ls : Array Slot), INV cI cO cJ ad ce1 rl1 → rl1 ≤ rl + 3 → va_P D CLS (wx 41 ad ce1) H → va_D A (wx 41 ad ce1) → va_S A s.heap H locs → lv_has ls 7 [(4, .int (nI i)), (3, .ref (ad 40)), (2, .ref (ad 34)), (1, .ref (ad 0)), (0, .ref b)] → W p l e room_1 s m #[Value.ref b] below meth c H locs (cells + 2) (slots + 12) Q (F0 m 914 ls [])) : W p l e room_1 s m #[Value.ref b] below meth c H locs cells slots Q (F0 m 685 ls []) := by
  obtain ⟨hx, hb, hml, hown, hA9, hX, hbl, hlt, hK, hE, hA, hbA⟩ := id C
  obtain ⟨os, n, f, gc, row, o4, o5, gr, mt, cg9, ga, gb, th, wv, tv, g, hV⟩ := hI
  obtain ⟨hT, hW, hf, i0, i1, hr5, ⟨i4, h4⟩, ⟨i5, h5⟩, i33, hgc, i34, i35, i36, hmt, i37, i38, i39, hwt, i40⟩ := id hV
  have hn := hT.2.2.2
  refine lv_aload_n hx hb dW_law_685 rfl (lv_at hl 3 rfl) ?_
  refine lv_aload_n hx hb dW_law_686 rfl (lv_at hl 4 rfl) ?_
  refine lv_iload hx hb dW_law_687 (lv_at hl 0 rfl) ?_
  refine lv_iconst (v := nI 1) hx hb dW_law_689 (by decide +kernel) ?_
  refine lv_iadd hx hb dW_law_690 ?_
  refine lv_topi (fun z1 e1 => ?_)
  obtain rfl : z1 = nI (i + 1) := by rw [e1]; exact nI_add _ _
  refine va_sld hx hb hX hbl hbA hS (inN) dW_law_691 ?_
  refine lv_topi (fun z2 e2 => ?_)
  obtain rfl : z2 = xs (i + 1) := by rw [e2, clN]
  refine lv_aload_n hx hb dW_law_692 rfl (lv_at hl 1 rfl) ?_
  refine cvi (vx_runSW (As := [.ref (ad 0), .int (xs (i + 1)), .ref (ad 40)]) (rest := []) ⟨hx, hb, hml, hown, hA9⟩ (c_W_number l hlt D cI cO cJ ad ce _ rl gc i0 hgc gr i33 g i40 (xs (i + 1))) (vx_cwSW 3 hA9 (gSW mlW_92 mtW_number mn_W mkW_number) rfl rfl rfl (by decide +kernel) ⟨Nat.le_of_ble_eq_true rfl, Nat.le_of_ble_eq_true rfl⟩) ⟨PX_bl, PX_mk hK hP hD hE hS hA⟩ rfl rfl hl.1 rfl (lv_room (Nat.le_of_ble_eq_true rfl)) dW_law_693 ⟨by show cells + 1 ≤ 601024; omega, by show slots + 6 ≤ 7293034; omega⟩) hS hD hA (fun r5 ce1 H locs hq1 hP hD hS => ?_)
  have fr1 : ∀ j, j ≠ 40 → ce1 j = ce j := fun j q0  => by
    rcases hq1 with ⟨-, r1, ce2, g1, ⟨hce, -⟩, fr, -⟩ | ⟨-, hce, -⟩
    · rw [fr j q0, hce]
    · rw [hce]
  refine lv_istore (lv' := [(5, .int r5), (4, .int (nI i)), (3, .ref (ad 40)), (2, .ref (ad 34)), (1, .ref (ad 0)), (0, .ref b)]) hx hb dW_law_696 hl (by decide) rfl (fun ls hl => ?_)
  refine lv_aload_n hx hb dW_law_698 rfl (lv_at hl 3 rfl) ?_
  refine lv_aload_n hx hb dW_law_699 rfl (lv_at hl 5 rfl) ?_
  refine lv_iload hx hb dW_law_700 (lv_at hl 1 rfl) ?_
  refine lv_iconst (v := nI 1) hx hb dW_law_702 (by decide +kernel) ?_
  refine lv_iadd hx hb dW_law_703 ?_
  refine lv_topi (fun z3 e3 => ?_)
  obtain rfl : z3 = nI (i + 1) := by rw [e3]; exact nI_add _ _
  refine va_sld hx hb hX hbl hbA hS (inN) dW_law_704 ?_
  refine lv_topi (fun z4 e4 => ?_)
  obtain rfl : z4 = xs (i + 1) := by rw [e4, clN]
  refine cvi (va_runV (As := [.int (xs (i + 1))]) (rest := []) ⟨hx, hb, hml, hown, hA9⟩ (c_M_number l D cI cO cJ 41 ad ce1 _ (by omega) th rl n gc ((fr1 34 (by omega)).trans i34) ga gb ((fr1 38 (by omega)).trans i38) ((fr1 39 (by omega)).trans i39) hgc wv tv (fun i h => (hwt i h).2) (xs (i + 1))) (cwV 1 hA9 (gV mlW_94 miM_number msM_number mn_M mkM_number) rfl rfl rfl (by decide +kernel) ⟨Nat.le_of_ble_eq_true rfl, Nat.le_of_ble_eq_true rfl⟩) ⟨PM_bl, wx_recv hK hP (by omega) (((fr1 34 (by omega)).trans i34)) rfl, PM_mk hK hP hD⟩ rfl rfl hl.1 rfl (lv_room (Nat.le_of_ble_eq_true rfl)) dW_law_705 ⟨by show cells + 1 + 0 ≤ 601024; omega, by show slots + 6 + 0 ≤ 7293034; omega⟩) hS hD hA (fun r6 ce3 H locs hq2 hP hD hS => ?_)
  refine lv_istore (lv' := [(6, .int r6), (5, .int r5), (4, .int (nI i)), (3, .ref (ad 40)), (2, .ref (ad 34)), (1, .ref (ad 0)), (0, .ref b)]) hx hb dW_law_708 hl (by decide) rfl (fun ls hl => ?_)
  obtain ⟨fr3, hq2⟩ := hq2
  rcases hq1 with ⟨e5, r1, ce2, g1, ⟨-, k, k1, k2, k3⟩, fr, k40, hg⟩ | ⟨e5, hce, no⟩
  · rcases hq2 with ⟨k9, j1, j2, j3, m34⟩ | ⟨no2, -, m34⟩
    · skip
      obtain rfl : k = k9 := eqN (k2.symm.trans j2)
      refine tail C (off := 176) (by show cells + 1 + 0 ≤ 601024; omega) (by show slots + 6 + 0 ≤ 7293034; omega) hP (m34) ((fr3 40 (by omega)).trans k40) hl dW_law_710 dW_law_711 dW_law_714 dW_law_716 dW_law_721 dW_law_723 dW_law_726 dW_law_727 dW_law_728 dW_law_729 dW_law_731 dW_law_732 dW_law_733 dW_law_738 (by decide) (e5.symm) (fun _ => by rw [hg, k3, j3, (hwt k k1).1]) ?_
      refine W.widen (k := cells + 2) (n := slots + 12) (by omega) (by omega) ?_
      exact kk ce3 rl H locs ls (hV.q (fun j a1 a2 a3 => (fr3 j a1).trans (fr1 j a3)) m34 ((fr3 37 (by omega)).trans ((fr1 37 (by omega)).trans i37)) ((fr3 40 (by omega)).trans k40)) (by omega) hP hD hS (lv_sub hl [2, 3, 4, 5, 6] rfl)
    · exact absurd ⟨k, k1, k2⟩ no2
  · rcases hq2 with ⟨k9, j1, j2, j3, m34⟩ | ⟨no2, -, m34⟩
    · exact absurd ⟨k9, j1, j2⟩ no
    · skip
      refine tail C (off := 176) (by show cells + 1 + 0 ≤ 601024; omega) (by show slots + 6 + 0 ≤ 7293034; omega) hP (m34) ((fr3 40 (by omega)).trans ((congrFun hce 40).trans i40)) hl dW_law_710 dW_law_711 dW_law_714 dW_law_716 dW_law_721 dW_law_723 dW_law_726 dW_law_727 dW_law_728 dW_law_729 dW_law_731 dW_law_732 dW_law_733 dW_law_738 (by decide) (e5.symm) (fun q9 => absurd (e5.symm.trans q9) (by decide +kernel)) ?_
      refine W.widen (k := cells + 2) (n := slots + 12) (by omega) (by omega) ?_
      exact kk ce3 rl H locs ls (hV.q (fun j a1 a2 a3 => (fr3 j a1).trans (fr1 j a3)) m34 ((fr3 37 (by omega)).trans ((fr1 37 (by omega)).trans i37)) ((fr3 40 (by omega)).trans ((congrFun hce 40).trans i40))) (by omega) hP hD hS (lv_sub hl [2, 3, 4, 5, 6] rfl)

set_option maxHeartbeats 4000000 in
set_option maxRecDepth 100000 in
theorem q_often (C : LX p l s m c b L xs D cI cO cJ A) {i : Nat} (hi : i + 4 ≤ L) (hL : L ≤ 2048) {rl : Nat} (hI : INV cI cO cJ ad ce rl) (hrl : rl ≤ 1533) (hc : cells + 2 ≤ 601024) (hs : slots + 12 ≤ 7293034) (hP : va_P D CLS (wx 41 ad ce) H) (hD : va_D A (wx 41 ad ce)) (hS : va_S A s.heap H locs) (hl : lv_has ls 7 [(4, .int (nI i)), (3, .ref (ad 40)), (2, .ref (ad 34)), (1, .ref (ad 0)), (0, .ref b)])
    (kk : ∀ (ce1 : Nat → va_E) (rl1 : Nat) (H : Heap) (locs : List Loc) (ls : Array Slot), INV cI cO cJ ad ce1 rl1 → rl1 ≤ rl + 3 → va_P D CLS (wx 41 ad ce1) H → va_D A (wx 41 ad ce1) → va_S A s.heap H locs → lv_has ls 7 [(4, .int (nI i)), (3, .ref (ad 40)), (2, .ref (ad 34)), (1, .ref (ad 0)), (0, .ref b)] → W p l e room_1 s m #[Value.ref b] below meth c H locs (cells + 2) (slots + 12) Q (F0 m 914 ls [])) : W p l e room_1 s m #[Value.ref b] below meth c H locs cells slots Q (F0 m 309 ls []) := by
  obtain ⟨hx, hb, hml, hown, hA9, hX, hbl, hlt, hK, hE, hA, hbA⟩ := id C
  obtain ⟨os, n, f, gc, row, o4, o5, gr, mt, cg9, ga, gb, th, wv, tv, g, hV⟩ := hI
  obtain ⟨hT, hW, hf, i0, i1, hr5, ⟨i4, h4⟩, ⟨i5, h5⟩, i33, hgc, i34, i35, i36, hmt, i37, i38, i39, hwt, i40⟩ := id hV
  have hn := hT.2.2.2
  refine lv_aload_n hx hb dW_law_309 rfl (lv_at hl 3 rfl) ?_
  refine lv_aload_n hx hb dW_law_310 rfl (lv_at hl 4 rfl) ?_
  refine lv_iload hx hb dW_law_311 (lv_at hl 0 rfl) ?_
  refine lv_iconst (v := nI 1) hx hb dW_law_313 (by decide +kernel) ?_
  refine lv_iadd hx hb dW_law_314 ?_
  refine lv_topi (fun z1 e1 => ?_)
  obtain rfl : z1 = nI (i + 1) := by rw [e1]; exact nI_add _ _
  refine va_sld hx hb hX hbl hbA hS (inN) dW_law_315 ?_
  refine lv_topi (fun z2 e2 => ?_)
  obtain rfl : z2 = xs (i + 1) := by rw [e2, clN]
  refine lv_aload_n hx hb dW_law_316 rfl (lv_at hl 4 rfl) ?_
  refine lv_iload hx hb dW_law_317 (lv_at hl 0 rfl) ?_
  refine lv_iconst (v := nI 2) hx hb dW_law_319 (by decide +kernel) ?_
  refine lv_iadd hx hb dW_law_320 ?_
  refine lv_topi (fun z3 e3 => ?_)
  obtain rfl : z3 = nI (i + 2) := by rw [e3]; exact nI_add _ _
  refine va_sld hx hb hX hbl hbA hS (inN) dW_law_321 ?_
  refine lv_topi (fun z4 e4 => ?_)
  obtain rfl : z4 = xs (i + 2) := by rw [e4, clN]
  refine lv_aload_n hx hb dW_law_322 rfl (lv_at hl 4 rfl) ?_
  refine lv_iload hx hb dW_law_323 (lv_at hl 0 rfl) ?_
  refine lv_iconst (v := nI 3) hx hb dW_law_325 (by decide +kernel) ?_
  refine lv_iadd hx hb dW_law_326 ?_
  refine lv_topi (fun z5 e5 => ?_)
  obtain rfl : z5 = nI (i + 3) := by rw [e5]; exact nI_add _ _
  refine va_sld hx hb hX hbl hbA hS (inN) dW_law_327 ?_
  refine lv_topi (fun z6 e6 => ?_)
  obtain rfl : z6 = xs (i + 3) := by rw [e6, clN]
  refine lv_aload_n hx hb dW_law_328 rfl (lv_at hl 1 rfl) ?_
  refine cvi (vx_runSW (As := [.ref (ad 0), .int (xs (i + 1)), .int (xs (i + 2)), .int (xs (i + 3)), .ref (ad 40)]) (rest := []) ⟨hx, hb, hml, hown, hA9⟩ (c_W_often l hlt D cI cO cJ ad ce _ os n hT rl gc i0 f hW hf g i40 (xs (i + 1)) (xs (i + 2)) (xs (i + 3))) (vx_cwSW 5 hA9 (gSW mlW_76 mtW_often mn_W mkW_often) rfl rfl rfl (by decide +kernel) ⟨Nat.le_of_ble_eq_true rfl, Nat.le_of_ble_eq_true rfl⟩) ⟨PX_bl, PX_mk hK hP hD hE hS hA⟩ rfl rfl hl.1 rfl (lv_room (Nat.le_of_ble_eq_true rfl)) dW_law_329 ⟨by show cells + 2 ≤ 601024; omega, by show slots + 12 ≤ 7293034; omega⟩) hS hD hA (fun r5 ce1 H locs hq1 hP hD hS => ?_)
  have fr1 : ∀ j, j ≠ 40 → ce1 j = ce j := fun j q0  => by
    rcases hq1 with ⟨-, r1, ce2, g1, ⟨hce, -⟩, fr, -⟩ | ⟨-, hce, -⟩
    · rw [fr j q0, hce]
    · rw [hce]
  refine lv_istore (lv' := [(5, .int r5), (4, .int (nI i)), (3, .ref (ad 40)), (2, .ref (ad 34)), (1, .ref (ad 0)), (0, .ref b)]) hx hb dW_law_332 hl (by decide) rfl (fun ls hl => ?_)
  refine lv_aload_n hx hb dW_law_334 rfl (lv_at hl 3 rfl) ?_
  refine lv_aload_n hx hb dW_law_335 rfl (lv_at hl 5 rfl) ?_
  refine lv_iload hx hb dW_law_336 (lv_at hl 1 rfl) ?_
  refine lv_iconst (v := nI 1) hx hb dW_law_338 (by decide +kernel) ?_
  refine lv_iadd hx hb dW_law_339 ?_
  refine lv_topi (fun z7 e7 => ?_)
  obtain rfl : z7 = nI (i + 1) := by rw [e7]; exact nI_add _ _
  refine va_sld hx hb hX hbl hbA hS (inN) dW_law_340 ?_
  refine lv_topi (fun z8 e8 => ?_)
  obtain rfl : z8 = xs (i + 1) := by rw [e8, clN]
  refine lv_aload_n hx hb dW_law_341 rfl (lv_at hl 5 rfl) ?_
  refine lv_iload hx hb dW_law_342 (lv_at hl 1 rfl) ?_
  refine lv_iconst (v := nI 2) hx hb dW_law_344 (by decide +kernel) ?_
  refine lv_iadd hx hb dW_law_345 ?_
  refine lv_topi (fun z9 e9 => ?_)
  obtain rfl : z9 = nI (i + 2) := by rw [e9]; exact nI_add _ _
  refine va_sld hx hb hX hbl hbA hS (inN) dW_law_346 ?_
  refine lv_topi (fun z10 e10 => ?_)
  obtain rfl : z10 = xs (i + 2) := by rw [e10, clN]
  refine lv_aload_n hx hb dW_law_347 rfl (lv_at hl 5 rfl) ?_
  refine lv_iload hx hb dW_law_348 (lv_at hl 1 rfl) ?_
  refine lv_iconst (v := nI 3) hx hb dW_law_350 (by decide +kernel) ?_
  refine lv_iadd hx hb dW_law_351 ?_
  refine lv_topi (fun z11 e11 => ?_)
  obtain rfl : z11 = nI (i + 3) := by rw [e11]; exact nI_add _ _
  refine va_sld hx hb hX hbl hbA hS (inN) dW_law_352 ?_
  refine lv_topi (fun z12 e12 => ?_)
  obtain rfl : z12 = xs (i + 3) := by rw [e12, clN]
  refine cvi (va_runV (As := [.int (xs (i + 1)), .int (xs (i + 2)), .int (xs (i + 3))]) (rest := []) ⟨hx, hb, hml, hown, hA9⟩ (c_M_often l D cI cO cJ 41 ad ce1 _ (by omega) th rl n gc ((fr1 34 (by omega)).trans i34) mt ((fr1 36 (by omega)).trans i36) f hmt hf hn (xs (i + 1)) (xs (i + 2)) (xs (i + 3))) (cwV 3 hA9 (gV mlW_78 miM_often msM_often mn_M mkM_often) rfl rfl rfl (by decide +kernel) ⟨Nat.le_of_ble_eq_true rfl, Nat.le_of_ble_eq_true rfl⟩) ⟨PM_bl, wx_recv hK hP (by omega) (((fr1 34 (by omega)).trans i34)) rfl, PM_mk hK hP hD⟩ rfl rfl hl.1 rfl (lv_room (Nat.le_of_ble_eq_true rfl)) dW_law_353 ⟨by show cells + 2 + 0 ≤ 601024; omega, by show slots + 12 + 0 ≤ 7293034; omega⟩) hS hD hA (fun r6 ce3 H locs hq2 hP hD hS => ?_)
  refine lv_istore (lv' := [(6, .int r6), (5, .int r5), (4, .int (nI i)), (3, .ref (ad 40)), (2, .ref (ad 34)), (1, .ref (ad 0)), (0, .ref b)]) hx hb dW_law_356 hl (by decide) rfl (fun ls hl => ?_)
  obtain ⟨fr3, hq2⟩ := hq2
  rcases hq1 with ⟨e5, r1, ce2, g1, ⟨-, y, u, v, k1, k2, k3, k4, k5, k6, k7⟩, fr, k40, hg⟩ | ⟨e5, hce, no⟩
  · rcases hq2 with ⟨y9, u9, v9, j1, j2, j3, j4, j5, j6, j7, m34⟩ | ⟨no2, -, m34⟩
    · skip
      obtain rfl : y = y9 := eqN (k4.symm.trans j4)
      obtain rfl : u = u9 := eqN (k5.symm.trans j5)
      obtain rfl : v = v9 := eqN (k6.symm.trans j6)
      refine tail C (off := 528) (by show cells + 2 + 0 ≤ 601024; omega) (by show slots + 12 + 0 ≤ 7293034; omega) hP (m34) ((fr3 40 (by omega)).trans k40) hl dW_law_358 dW_law_359 dW_law_362 dW_law_364 dW_law_369 dW_law_371 dW_law_374 dW_law_375 dW_law_376 dW_law_377 dW_law_379 dW_law_380 dW_law_381 dW_law_386 (by decide) (e5.symm) (fun _ => by rw [hg, k7, j7]) ?_
      refine W.widen (k := cells + 2) (n := slots + 12) (by omega) (by omega) ?_
      exact kk ce3 rl H locs ls (hV.q (fun j a1 a2 a3 => (fr3 j a1).trans (fr1 j a3)) m34 ((fr3 37 (by omega)).trans ((fr1 37 (by omega)).trans i37)) ((fr3 40 (by omega)).trans k40)) (by omega) hP hD hS (lv_sub hl [2, 3, 4, 5, 6] rfl)
    · exact absurd ⟨y, u, v, k1, k2, k3, k4, k5, k6⟩ no2
  · rcases hq2 with ⟨y9, u9, v9, j1, j2, j3, j4, j5, j6, j7, m34⟩ | ⟨no2, -, m34⟩
    · exact absurd ⟨y9, u9, v9, j1, j2, j3, j4, j5, j6⟩ no
    · skip
      refine tail C (off := 528) (by show cells + 2 + 0 ≤ 601024; omega) (by show slots + 12 + 0 ≤ 7293034; omega) hP (m34) ((fr3 40 (by omega)).trans ((congrFun hce 40).trans i40)) hl dW_law_358 dW_law_359 dW_law_362 dW_law_364 dW_law_369 dW_law_371 dW_law_374 dW_law_375 dW_law_376 dW_law_377 dW_law_379 dW_law_380 dW_law_381 dW_law_386 (by decide) (e5.symm) (fun q9 => absurd (e5.symm.trans q9) (by decide +kernel)) ?_
      refine W.widen (k := cells + 2) (n := slots + 12) (by omega) (by omega) ?_
      exact kk ce3 rl H locs ls (hV.q (fun j a1 a2 a3 => (fr3 j a1).trans (fr1 j a3)) m34 ((fr3 37 (by omega)).trans ((fr1 37 (by omega)).trans i37)) ((fr3 40 (by omega)).trans ((congrFun hce 40).trans i40))) (by omega) hP hD hS (lv_sub hl [2, 3, 4, 5, 6] rfl)

set_option maxHeartbeats 4000000 in
set_option maxRecDepth 100000 in
theorem q_below (C : LX p l s m c b L xs D cI cO cJ A) {i : Nat} (hi : i + 4 ≤ L) (hL : L ≤ 2048) {rl : Nat} (hI : INV cI cO cJ ad ce rl) (hrl : rl ≤ 1533) (hc : cells + 2 ≤ 601024) (hs : slots + 12 ≤ 7293034) (hP : va_P D CLS (wx 41 ad ce) H) (hD : va_D A (wx 41 ad ce)) (hS : va_S A s.heap H locs) (hl : lv_has ls 7 [(4, .int (nI i)), (3, .ref (ad 40)), (2, .ref (ad 34)), (1, .ref (ad 0)), (0, .ref b)])
    (kk : ∀ (ce1 : Nat → va_E) (rl1 : Nat) (H : Heap) (locs : List Loc) (ls : Array Slot), INV cI cO cJ ad ce1 rl1 → rl1 ≤ rl + 3 → va_P D CLS (wx 41 ad ce1) H → va_D A (wx 41 ad ce1) → va_S A s.heap H locs → lv_has ls 7 [(4, .int (nI i)), (3, .ref (ad 40)), (2, .ref (ad 34)), (1, .ref (ad 0)), (0, .ref b)] → W p l e room_1 s m #[Value.ref b] below meth c H locs (cells + 2) (slots + 12) Q (F0 m 914 ls [])) : W p l e room_1 s m #[Value.ref b] below meth c H locs cells slots Q (F0 m 537 ls []) := by
  obtain ⟨hx, hb, hml, hown, hA9, hX, hbl, hlt, hK, hE, hA, hbA⟩ := id C
  obtain ⟨os, n, f, gc, row, o4, o5, gr, mt, cg9, ga, gb, th, wv, tv, g, hV⟩ := hI
  obtain ⟨hT, hW, hf, i0, i1, hr5, ⟨i4, h4⟩, ⟨i5, h5⟩, i33, hgc, i34, i35, i36, hmt, i37, i38, i39, hwt, i40⟩ := id hV
  have hn := hT.2.2.2
  refine lv_aload_n hx hb dW_law_537 rfl (lv_at hl 3 rfl) ?_
  refine lv_aload_n hx hb dW_law_538 rfl (lv_at hl 4 rfl) ?_
  refine lv_iload hx hb dW_law_539 (lv_at hl 0 rfl) ?_
  refine lv_iconst (v := nI 1) hx hb dW_law_541 (by decide +kernel) ?_
  refine lv_iadd hx hb dW_law_542 ?_
  refine lv_topi (fun z1 e1 => ?_)
  obtain rfl : z1 = nI (i + 1) := by rw [e1]; exact nI_add _ _
  refine va_sld hx hb hX hbl hbA hS (inN) dW_law_543 ?_
  refine lv_topi (fun z2 e2 => ?_)
  obtain rfl : z2 = xs (i + 1) := by rw [e2, clN]
  refine lv_aload_n hx hb dW_law_544 rfl (lv_at hl 4 rfl) ?_
  refine lv_iload hx hb dW_law_545 (lv_at hl 0 rfl) ?_
  refine lv_iconst (v := nI 2) hx hb dW_law_547 (by decide +kernel) ?_
  refine lv_iadd hx hb dW_law_548 ?_
  refine lv_topi (fun z3 e3 => ?_)
  obtain rfl : z3 = nI (i + 2) := by rw [e3]; exact nI_add _ _
  refine va_sld hx hb hX hbl hbA hS (inN) dW_law_549 ?_
  refine lv_topi (fun z4 e4 => ?_)
  obtain rfl : z4 = xs (i + 2) := by rw [e4, clN]
  refine lv_aload_n hx hb dW_law_550 rfl (lv_at hl 4 rfl) ?_
  refine lv_iload hx hb dW_law_551 (lv_at hl 0 rfl) ?_
  refine lv_iconst (v := nI 3) hx hb dW_law_553 (by decide +kernel) ?_
  refine lv_iadd hx hb dW_law_554 ?_
  refine lv_topi (fun z5 e5 => ?_)
  obtain rfl : z5 = nI (i + 3) := by rw [e5]; exact nI_add _ _
  refine va_sld hx hb hX hbl hbA hS (inN) dW_law_555 ?_
  refine lv_topi (fun z6 e6 => ?_)
  obtain rfl : z6 = xs (i + 3) := by rw [e6, clN]
  refine lv_aload_n hx hb dW_law_556 rfl (lv_at hl 1 rfl) ?_
  refine cvi (vx_runSW (As := [.ref (ad 0), .int (xs (i + 1)), .int (xs (i + 2)), .int (xs (i + 3)), .ref (ad 40)]) (rest := []) ⟨hx, hb, hml, hown, hA9⟩ (c_W_below l hlt D cI cO cJ ad ce _ os n hT rl gc i0 f hW hf g i40 (xs (i + 1)) (xs (i + 2)) (xs (i + 3))) (vx_cwSW 5 hA9 (gSW mlW_86 mtW_below mn_W mkW_below) rfl rfl rfl (by decide +kernel) ⟨Nat.le_of_ble_eq_true rfl, Nat.le_of_ble_eq_true rfl⟩) ⟨PX_bl, PX_mk hK hP hD hE hS hA⟩ rfl rfl hl.1 rfl (lv_room (Nat.le_of_ble_eq_true rfl)) dW_law_557 ⟨by show cells + 2 ≤ 601024; omega, by show slots + 12 ≤ 7293034; omega⟩) hS hD hA (fun r5 ce1 H locs hq1 hP hD hS => ?_)
  have fr1 : ∀ j, j ≠ 40 → ce1 j = ce j := fun j q0  => by
    rcases hq1 with ⟨-, r1, ce2, g1, ⟨hce, -⟩, fr, -⟩ | ⟨-, hce, -⟩
    · rw [fr j q0, hce]
    · rw [hce]
  refine lv_istore (lv' := [(5, .int r5), (4, .int (nI i)), (3, .ref (ad 40)), (2, .ref (ad 34)), (1, .ref (ad 0)), (0, .ref b)]) hx hb dW_law_560 hl (by decide) rfl (fun ls hl => ?_)
  refine lv_aload_n hx hb dW_law_562 rfl (lv_at hl 3 rfl) ?_
  refine lv_aload_n hx hb dW_law_563 rfl (lv_at hl 5 rfl) ?_
  refine lv_iload hx hb dW_law_564 (lv_at hl 1 rfl) ?_
  refine lv_iconst (v := nI 1) hx hb dW_law_566 (by decide +kernel) ?_
  refine lv_iadd hx hb dW_law_567 ?_
  refine lv_topi (fun z7 e7 => ?_)
  obtain rfl : z7 = nI (i + 1) := by rw [e7]; exact nI_add _ _
  refine va_sld hx hb hX hbl hbA hS (inN) dW_law_568 ?_
  refine lv_topi (fun z8 e8 => ?_)
  obtain rfl : z8 = xs (i + 1) := by rw [e8, clN]
  refine lv_aload_n hx hb dW_law_569 rfl (lv_at hl 5 rfl) ?_
  refine lv_iload hx hb dW_law_570 (lv_at hl 1 rfl) ?_
  refine lv_iconst (v := nI 2) hx hb dW_law_572 (by decide +kernel) ?_
  refine lv_iadd hx hb dW_law_573 ?_
  refine lv_topi (fun z9 e9 => ?_)
  obtain rfl : z9 = nI (i + 2) := by rw [e9]; exact nI_add _ _
  refine va_sld hx hb hX hbl hbA hS (inN) dW_law_574 ?_
  refine lv_topi (fun z10 e10 => ?_)
  obtain rfl : z10 = xs (i + 2) := by rw [e10, clN]
  refine lv_aload_n hx hb dW_law_575 rfl (lv_at hl 5 rfl) ?_
  refine lv_iload hx hb dW_law_576 (lv_at hl 1 rfl) ?_
  refine lv_iconst (v := nI 3) hx hb dW_law_578 (by decide +kernel) ?_
  refine lv_iadd hx hb dW_law_579 ?_
  refine lv_topi (fun z11 e11 => ?_)
  obtain rfl : z11 = nI (i + 3) := by rw [e11]; exact nI_add _ _
  refine va_sld hx hb hX hbl hbA hS (inN) dW_law_580 ?_
  refine lv_topi (fun z12 e12 => ?_)
  obtain rfl : z12 = xs (i + 3) := by rw [e12, clN]
  refine cvi (va_runV (As := [.int (xs (i + 1)), .int (xs (i + 2)), .int (xs (i + 3))]) (rest := []) ⟨hx, hb, hml, hown, hA9⟩ (c_M_below l D cI cO cJ 41 ad ce1 _ (by omega) th rl n gc ((fr1 34 (by omega)).trans i34) mt ((fr1 36 (by omega)).trans i36) f hmt hf hn (xs (i + 1)) (xs (i + 2)) (xs (i + 3))) (cwV 3 hA9 (gV mlW_88 miM_below msM_below mn_M mkM_below) rfl rfl rfl (by decide +kernel) ⟨Nat.le_of_ble_eq_true rfl, Nat.le_of_ble_eq_true rfl⟩) ⟨PM_bl, wx_recv hK hP (by omega) (((fr1 34 (by omega)).trans i34)) rfl, PM_mk hK hP hD⟩ rfl rfl hl.1 rfl (lv_room (Nat.le_of_ble_eq_true rfl)) dW_law_581 ⟨by show cells + 2 + 0 ≤ 601024; omega, by show slots + 12 + 0 ≤ 7293034; omega⟩) hS hD hA (fun r6 ce3 H locs hq2 hP hD hS => ?_)
  refine lv_istore (lv' := [(6, .int r6), (5, .int r5), (4, .int (nI i)), (3, .ref (ad 40)), (2, .ref (ad 34)), (1, .ref (ad 0)), (0, .ref b)]) hx hb dW_law_584 hl (by decide) rfl (fun ls hl => ?_)
  obtain ⟨fr3, hq2⟩ := hq2
  rcases hq1 with ⟨e5, r1, ce2, g1, ⟨-, y, u, v, k1, k2, k3, k4, k5, k6, k7⟩, fr, k40, hg⟩ | ⟨e5, hce, no⟩
  · rcases hq2 with ⟨y9, u9, v9, j1, j2, j3, j4, j5, j6, j7, m34⟩ | ⟨no2, -, m34⟩
    · skip
      obtain rfl : y = y9 := eqN (k4.symm.trans j4)
      obtain rfl : u = u9 := eqN (k5.symm.trans j5)
      obtain rfl : v = v9 := eqN (k6.symm.trans j6)
      refine tail C (off := 300) (by show cells + 2 + 0 ≤ 601024; omega) (by show slots + 12 + 0 ≤ 7293034; omega) hP (m34) ((fr3 40 (by omega)).trans k40) hl dW_law_586 dW_law_587 dW_law_590 dW_law_592 dW_law_597 dW_law_599 dW_law_602 dW_law_603 dW_law_604 dW_law_605 dW_law_607 dW_law_608 dW_law_609 dW_law_614 (by decide) (e5.symm) (fun _ => by rw [hg, k7, j7]) ?_
      refine W.widen (k := cells + 2) (n := slots + 12) (by omega) (by omega) ?_
      exact kk ce3 rl H locs ls (hV.q (fun j a1 a2 a3 => (fr3 j a1).trans (fr1 j a3)) m34 ((fr3 37 (by omega)).trans ((fr1 37 (by omega)).trans i37)) ((fr3 40 (by omega)).trans k40)) (by omega) hP hD hS (lv_sub hl [2, 3, 4, 5, 6] rfl)
    · exact absurd ⟨y, u, v, k1, k2, k3, k4, k5, k6⟩ no2
  · rcases hq2 with ⟨y9, u9, v9, j1, j2, j3, j4, j5, j6, j7, m34⟩ | ⟨no2, -, m34⟩
    · exact absurd ⟨y9, u9, v9, j1, j2, j3, j4, j5, j6⟩ no
    · skip
      refine tail C (off := 300) (by show cells + 2 + 0 ≤ 601024; omega) (by show slots + 12 + 0 ≤ 7293034; omega) hP (m34) ((fr3 40 (by omega)).trans ((congrFun hce 40).trans i40)) hl dW_law_586 dW_law_587 dW_law_590 dW_law_592 dW_law_597 dW_law_599 dW_law_602 dW_law_603 dW_law_604 dW_law_605 dW_law_607 dW_law_608 dW_law_609 dW_law_614 (by decide) (e5.symm) (fun q9 => absurd (e5.symm.trans q9) (by decide +kernel)) ?_
      refine W.widen (k := cells + 2) (n := slots + 12) (by omega) (by omega) ?_
      exact kk ce3 rl H locs ls (hV.q (fun j a1 a2 a3 => (fr3 j a1).trans (fr1 j a3)) m34 ((fr3 37 (by omega)).trans ((fr1 37 (by omega)).trans i37)) ((fr3 40 (by omega)).trans ((congrFun hce 40).trans i40))) (by omega) hP hD hS (lv_sub hl [2, 3, 4, 5, 6] rfl)

set_option maxHeartbeats 4000000 in
set_option maxRecDepth 100000 in
theorem q_before (C : LX p l s m c b L xs D cI cO cJ A) {i : Nat} (hi : i + 4 ≤ L) (hL : L ≤ 2048) {rl : Nat} (hI : INV cI cO cJ ad ce rl) (hrl : rl ≤ 1533) (hc : cells + 2 ≤ 601024) (hs : slots + 12 ≤ 7293034) (hP : va_P D CLS (wx 41 ad ce) H) (hD : va_D A (wx 41 ad ce)) (hS : va_S A s.heap H locs) (hl : lv_has ls 7 [(4, .int (nI i)), (3, .ref (ad 40)), (2, .ref (ad 34)), (1, .ref (ad 0)), (0, .ref b)])
    (kk : ∀ (ce1 : Nat → va_E) (rl1 : Nat) (H : Heap) (locs : List Loc) (ls : Array Slot), INV cI cO cJ ad ce1 rl1 → rl1 ≤ rl + 3 → va_P D CLS (wx 41 ad ce1) H → va_D A (wx 41 ad ce1) → va_S A s.heap H locs → lv_has ls 7 [(4, .int (nI i)), (3, .ref (ad 40)), (2, .ref (ad 34)), (1, .ref (ad 0)), (0, .ref b)] → W p l e room_1 s m #[Value.ref b] below meth c H locs (cells + 2) (slots + 12) Q (F0 m 914 ls [])) : W p l e room_1 s m #[Value.ref b] below meth c H locs cells slots Q (F0 m 741 ls []) := by
  obtain ⟨hx, hb, hml, hown, hA9, hX, hbl, hlt, hK, hE, hA, hbA⟩ := id C
  obtain ⟨os, n, f, gc, row, o4, o5, gr, mt, cg9, ga, gb, th, wv, tv, g, hV⟩ := hI
  obtain ⟨hT, hW, hf, i0, i1, hr5, ⟨i4, h4⟩, ⟨i5, h5⟩, i33, hgc, i34, i35, i36, hmt, i37, i38, i39, hwt, i40⟩ := id hV
  have hn := hT.2.2.2
  refine lv_aload_n hx hb dW_law_741 rfl (lv_at hl 3 rfl) ?_
  refine lv_aload_n hx hb dW_law_742 rfl (lv_at hl 4 rfl) ?_
  refine lv_iload hx hb dW_law_743 (lv_at hl 0 rfl) ?_
  refine lv_iconst (v := nI 1) hx hb dW_law_745 (by decide +kernel) ?_
  refine lv_iadd hx hb dW_law_746 ?_
  refine lv_topi (fun z1 e1 => ?_)
  obtain rfl : z1 = nI (i + 1) := by rw [e1]; exact nI_add _ _
  refine va_sld hx hb hX hbl hbA hS (inN) dW_law_747 ?_
  refine lv_topi (fun z2 e2 => ?_)
  obtain rfl : z2 = xs (i + 1) := by rw [e2, clN]
  refine lv_aload_n hx hb dW_law_748 rfl (lv_at hl 4 rfl) ?_
  refine lv_iload hx hb dW_law_749 (lv_at hl 0 rfl) ?_
  refine lv_iconst (v := nI 2) hx hb dW_law_751 (by decide +kernel) ?_
  refine lv_iadd hx hb dW_law_752 ?_
  refine lv_topi (fun z3 e3 => ?_)
  obtain rfl : z3 = nI (i + 2) := by rw [e3]; exact nI_add _ _
  refine va_sld hx hb hX hbl hbA hS (inN) dW_law_753 ?_
  refine lv_topi (fun z4 e4 => ?_)
  obtain rfl : z4 = xs (i + 2) := by rw [e4, clN]
  refine lv_aload_n hx hb dW_law_754 rfl (lv_at hl 4 rfl) ?_
  refine lv_iload hx hb dW_law_755 (lv_at hl 0 rfl) ?_
  refine lv_iconst (v := nI 3) hx hb dW_law_757 (by decide +kernel) ?_
  refine lv_iadd hx hb dW_law_758 ?_
  refine lv_topi (fun z5 e5 => ?_)
  obtain rfl : z5 = nI (i + 3) := by rw [e5]; exact nI_add _ _
  refine va_sld hx hb hX hbl hbA hS (inN) dW_law_759 ?_
  refine lv_topi (fun z6 e6 => ?_)
  obtain rfl : z6 = xs (i + 3) := by rw [e6, clN]
  refine lv_aload_n hx hb dW_law_760 rfl (lv_at hl 1 rfl) ?_
  refine cvi (vx_runSW (As := [.ref (ad 0), .int (xs (i + 1)), .int (xs (i + 2)), .int (xs (i + 3)), .ref (ad 40)]) (rest := []) ⟨hx, hb, hml, hown, hA9⟩ (c_W_before l hlt D cI cO cJ ad ce _ os n hT rl gc i0 f hW hf g i40 (xs (i + 1)) (xs (i + 2)) (xs (i + 3))) (vx_cwSW 5 hA9 (gSW mlW_95 mtW_before mn_W mkW_before) rfl rfl rfl (by decide +kernel) ⟨Nat.le_of_ble_eq_true rfl, Nat.le_of_ble_eq_true rfl⟩) ⟨PX_bl, PX_mk hK hP hD hE hS hA⟩ rfl rfl hl.1 rfl (lv_room (Nat.le_of_ble_eq_true rfl)) dW_law_761 ⟨by show cells + 2 ≤ 601024; omega, by show slots + 12 ≤ 7293034; omega⟩) hS hD hA (fun r5 ce1 H locs hq1 hP hD hS => ?_)
  have fr1 : ∀ j, j ≠ 40 → ce1 j = ce j := fun j q0  => by
    rcases hq1 with ⟨-, r1, ce2, g1, ⟨hce, -⟩, fr, -⟩ | ⟨-, hce, -⟩
    · rw [fr j q0, hce]
    · rw [hce]
  refine lv_istore (lv' := [(5, .int r5), (4, .int (nI i)), (3, .ref (ad 40)), (2, .ref (ad 34)), (1, .ref (ad 0)), (0, .ref b)]) hx hb dW_law_764 hl (by decide) rfl (fun ls hl => ?_)
  refine lv_aload_n hx hb dW_law_766 rfl (lv_at hl 3 rfl) ?_
  refine lv_aload_n hx hb dW_law_767 rfl (lv_at hl 5 rfl) ?_
  refine lv_iload hx hb dW_law_768 (lv_at hl 1 rfl) ?_
  refine lv_iconst (v := nI 1) hx hb dW_law_770 (by decide +kernel) ?_
  refine lv_iadd hx hb dW_law_771 ?_
  refine lv_topi (fun z7 e7 => ?_)
  obtain rfl : z7 = nI (i + 1) := by rw [e7]; exact nI_add _ _
  refine va_sld hx hb hX hbl hbA hS (inN) dW_law_772 ?_
  refine lv_topi (fun z8 e8 => ?_)
  obtain rfl : z8 = xs (i + 1) := by rw [e8, clN]
  refine lv_aload_n hx hb dW_law_773 rfl (lv_at hl 5 rfl) ?_
  refine lv_iload hx hb dW_law_774 (lv_at hl 1 rfl) ?_
  refine lv_iconst (v := nI 2) hx hb dW_law_776 (by decide +kernel) ?_
  refine lv_iadd hx hb dW_law_777 ?_
  refine lv_topi (fun z9 e9 => ?_)
  obtain rfl : z9 = nI (i + 2) := by rw [e9]; exact nI_add _ _
  refine va_sld hx hb hX hbl hbA hS (inN) dW_law_778 ?_
  refine lv_topi (fun z10 e10 => ?_)
  obtain rfl : z10 = xs (i + 2) := by rw [e10, clN]
  refine lv_aload_n hx hb dW_law_779 rfl (lv_at hl 5 rfl) ?_
  refine lv_iload hx hb dW_law_780 (lv_at hl 1 rfl) ?_
  refine lv_iconst (v := nI 3) hx hb dW_law_782 (by decide +kernel) ?_
  refine lv_iadd hx hb dW_law_783 ?_
  refine lv_topi (fun z11 e11 => ?_)
  obtain rfl : z11 = nI (i + 3) := by rw [e11]; exact nI_add _ _
  refine va_sld hx hb hX hbl hbA hS (inN) dW_law_784 ?_
  refine lv_topi (fun z12 e12 => ?_)
  obtain rfl : z12 = xs (i + 3) := by rw [e12, clN]
  refine cvi (va_runV (As := [.int (xs (i + 1)), .int (xs (i + 2)), .int (xs (i + 3))]) (rest := []) ⟨hx, hb, hml, hown, hA9⟩ (c_M_before l D cI cO cJ 41 ad ce1 _ (by omega) th rl n gc ((fr1 34 (by omega)).trans i34) mt ((fr1 36 (by omega)).trans i36) f hmt hf hn (xs (i + 1)) (xs (i + 2)) (xs (i + 3))) (cwV 3 hA9 (gV mlW_97 miM_before msM_before mn_M mkM_before) rfl rfl rfl (by decide +kernel) ⟨Nat.le_of_ble_eq_true rfl, Nat.le_of_ble_eq_true rfl⟩) ⟨PM_bl, wx_recv hK hP (by omega) (((fr1 34 (by omega)).trans i34)) rfl, PM_mk hK hP hD⟩ rfl rfl hl.1 rfl (lv_room (Nat.le_of_ble_eq_true rfl)) dW_law_785 ⟨by show cells + 2 + 0 ≤ 601024; omega, by show slots + 12 + 0 ≤ 7293034; omega⟩) hS hD hA (fun r6 ce3 H locs hq2 hP hD hS => ?_)
  refine lv_istore (lv' := [(6, .int r6), (5, .int r5), (4, .int (nI i)), (3, .ref (ad 40)), (2, .ref (ad 34)), (1, .ref (ad 0)), (0, .ref b)]) hx hb dW_law_788 hl (by decide) rfl (fun ls hl => ?_)
  obtain ⟨fr3, hq2⟩ := hq2
  rcases hq1 with ⟨e5, r1, ce2, g1, ⟨-, y, u, v, k1, k2, k3, k4, k5, k6, k7⟩, fr, k40, hg⟩ | ⟨e5, hce, no⟩
  · rcases hq2 with ⟨y9, u9, v9, j1, j2, j3, j4, j5, j6, j7, m34⟩ | ⟨no2, -, m34⟩
    · skip
      obtain rfl : y = y9 := eqN (k4.symm.trans j4)
      obtain rfl : u = u9 := eqN (k5.symm.trans j5)
      obtain rfl : v = v9 := eqN (k6.symm.trans j6)
      refine tail C (off := 96) (by show cells + 2 + 0 ≤ 601024; omega) (by show slots + 12 + 0 ≤ 7293034; omega) hP (m34) ((fr3 40 (by omega)).trans k40) hl dW_law_790 dW_law_791 dW_law_794 dW_law_796 dW_law_801 dW_law_803 dW_law_806 dW_law_807 dW_law_808 dW_law_809 dW_law_811 dW_law_812 dW_law_813 dW_law_818 (by decide) (e5.symm) (fun _ => by obtain ⟨o1, k8, k9⟩ := k7; obtain ⟨o2, j8, j9⟩ := j7; rw [hg, k8, j8, k9.one j9]) ?_
      refine W.widen (k := cells + 2) (n := slots + 12) (by omega) (by omega) ?_
      exact kk ce3 rl H locs ls (hV.q (fun j a1 a2 a3 => (fr3 j a1).trans (fr1 j a3)) m34 ((fr3 37 (by omega)).trans ((fr1 37 (by omega)).trans i37)) ((fr3 40 (by omega)).trans k40)) (by omega) hP hD hS (lv_sub hl [2, 3, 4, 5, 6] rfl)
    · exact absurd ⟨y, u, v, k1, k2, k3, k4, k5, k6⟩ no2
  · rcases hq2 with ⟨y9, u9, v9, j1, j2, j3, j4, j5, j6, j7, m34⟩ | ⟨no2, -, m34⟩
    · exact absurd ⟨y9, u9, v9, j1, j2, j3, j4, j5, j6⟩ no
    · skip
      refine tail C (off := 96) (by show cells + 2 + 0 ≤ 601024; omega) (by show slots + 12 + 0 ≤ 7293034; omega) hP (m34) ((fr3 40 (by omega)).trans ((congrFun hce 40).trans i40)) hl dW_law_790 dW_law_791 dW_law_794 dW_law_796 dW_law_801 dW_law_803 dW_law_806 dW_law_807 dW_law_808 dW_law_809 dW_law_811 dW_law_812 dW_law_813 dW_law_818 (by decide) (e5.symm) (fun q9 => absurd (e5.symm.trans q9) (by decide +kernel)) ?_
      refine W.widen (k := cells + 2) (n := slots + 12) (by omega) (by omega) ?_
      exact kk ce3 rl H locs ls (hV.q (fun j a1 a2 a3 => (fr3 j a1).trans (fr1 j a3)) m34 ((fr3 37 (by omega)).trans ((fr1 37 (by omega)).trans i37)) ((fr3 40 (by omega)).trans ((congrFun hce 40).trans i40))) (by omega) hP hD hS (lv_sub hl [2, 3, 4, 5, 6] rfl)

set_option maxHeartbeats 4000000 in
set_option maxRecDepth 100000 in
theorem q_most (C : LX p l s m c b L xs D cI cO cJ A) {i : Nat} (hi : i + 4 ≤ L) (hL : L ≤ 2048) {rl : Nat} (hI : INV cI cO cJ ad ce rl) (hrl : rl ≤ 1533) (hc : cells + 2 ≤ 601024) (hs : slots + 12 ≤ 7293034) (hP : va_P D CLS (wx 41 ad ce) H) (hD : va_D A (wx 41 ad ce)) (hS : va_S A s.heap H locs) (hl : lv_has ls 7 [(4, .int (nI i)), (3, .ref (ad 40)), (2, .ref (ad 34)), (1, .ref (ad 0)), (0, .ref b)])
    (kk : ∀ (ce1 : Nat → va_E) (rl1 : Nat) (H : Heap) (locs : List Loc) (ls : Array Slot), INV cI cO cJ ad ce1 rl1 → rl1 ≤ rl + 3 → va_P D CLS (wx 41 ad ce1) H → va_D A (wx 41 ad ce1) → va_S A s.heap H locs → lv_has ls 7 [(4, .int (nI i)), (3, .ref (ad 40)), (2, .ref (ad 34)), (1, .ref (ad 0)), (0, .ref b)] → W p l e room_1 s m #[Value.ref b] below meth c H locs (cells + 2) (slots + 12) Q (F0 m 914 ls [])) : W p l e room_1 s m #[Value.ref b] below meth c H locs cells slots Q (F0 m 821 ls []) := by
  obtain ⟨hx, hb, hml, hown, hA9, hX, hbl, hlt, hK, hE, hA, hbA⟩ := id C
  obtain ⟨os, n, f, gc, row, o4, o5, gr, mt, cg9, ga, gb, th, wv, tv, g, hV⟩ := hI
  obtain ⟨hT, hW, hf, i0, i1, hr5, ⟨i4, h4⟩, ⟨i5, h5⟩, i33, hgc, i34, i35, i36, hmt, i37, i38, i39, hwt, i40⟩ := id hV
  have hn := hT.2.2.2
  refine lv_aload_n hx hb dW_law_821 rfl (lv_at hl 3 rfl) ?_
  refine lv_aload_n hx hb dW_law_822 rfl (lv_at hl 4 rfl) ?_
  refine lv_iload hx hb dW_law_823 (lv_at hl 0 rfl) ?_
  refine lv_iconst (v := nI 1) hx hb dW_law_825 (by decide +kernel) ?_
  refine lv_iadd hx hb dW_law_826 ?_
  refine lv_topi (fun z1 e1 => ?_)
  obtain rfl : z1 = nI (i + 1) := by rw [e1]; exact nI_add _ _
  refine va_sld hx hb hX hbl hbA hS (inN) dW_law_827 ?_
  refine lv_topi (fun z2 e2 => ?_)
  obtain rfl : z2 = xs (i + 1) := by rw [e2, clN]
  refine lv_aload_n hx hb dW_law_828 rfl (lv_at hl 4 rfl) ?_
  refine lv_iload hx hb dW_law_829 (lv_at hl 0 rfl) ?_
  refine lv_iconst (v := nI 2) hx hb dW_law_831 (by decide +kernel) ?_
  refine lv_iadd hx hb dW_law_832 ?_
  refine lv_topi (fun z3 e3 => ?_)
  obtain rfl : z3 = nI (i + 2) := by rw [e3]; exact nI_add _ _
  refine va_sld hx hb hX hbl hbA hS (inN) dW_law_833 ?_
  refine lv_topi (fun z4 e4 => ?_)
  obtain rfl : z4 = xs (i + 2) := by rw [e4, clN]
  refine lv_aload_n hx hb dW_law_834 rfl (lv_at hl 1 rfl) ?_
  refine cvi (vx_runSW (As := [.ref (ad 0), .int (xs (i + 1)), .int (xs (i + 2)), .ref (ad 40)]) (rest := []) ⟨hx, hb, hml, hown, hA9⟩ (c_W_most l hlt D cI cO cJ ad ce _ os n hT rl gc i0 f hW hf g i40 (xs (i + 1)) (xs (i + 2))) (vx_cwSW 4 hA9 (gSW mlW_98 mtW_most mn_W mkW_most) rfl rfl rfl (by decide +kernel) ⟨Nat.le_of_ble_eq_true rfl, Nat.le_of_ble_eq_true rfl⟩) ⟨PX_bl, PX_mk hK hP hD hE hS hA⟩ rfl rfl hl.1 rfl (lv_room (Nat.le_of_ble_eq_true rfl)) dW_law_835 ⟨by show cells + 1 ≤ 601024; omega, by show slots + 6 ≤ 7293034; omega⟩) hS hD hA (fun r5 ce1 H locs hq1 hP hD hS => ?_)
  have fr1 : ∀ j, j ≠ 40 → ce1 j = ce j := fun j q0  => by
    rcases hq1 with ⟨-, r1, ce2, g1, ⟨hce, -⟩, fr, -⟩ | ⟨-, hce, -⟩
    · rw [fr j q0, hce]
    · rw [hce]
  refine lv_istore (lv' := [(5, .int r5), (4, .int (nI i)), (3, .ref (ad 40)), (2, .ref (ad 34)), (1, .ref (ad 0)), (0, .ref b)]) hx hb dW_law_838 hl (by decide) rfl (fun ls hl => ?_)
  refine lv_aload_n hx hb dW_law_840 rfl (lv_at hl 3 rfl) ?_
  refine lv_aload_n hx hb dW_law_841 rfl (lv_at hl 5 rfl) ?_
  refine lv_iload hx hb dW_law_842 (lv_at hl 1 rfl) ?_
  refine lv_iconst (v := nI 1) hx hb dW_law_844 (by decide +kernel) ?_
  refine lv_iadd hx hb dW_law_845 ?_
  refine lv_topi (fun z5 e5 => ?_)
  obtain rfl : z5 = nI (i + 1) := by rw [e5]; exact nI_add _ _
  refine va_sld hx hb hX hbl hbA hS (inN) dW_law_846 ?_
  refine lv_topi (fun z6 e6 => ?_)
  obtain rfl : z6 = xs (i + 1) := by rw [e6, clN]
  refine lv_aload_n hx hb dW_law_847 rfl (lv_at hl 5 rfl) ?_
  refine lv_iload hx hb dW_law_848 (lv_at hl 1 rfl) ?_
  refine lv_iconst (v := nI 2) hx hb dW_law_850 (by decide +kernel) ?_
  refine lv_iadd hx hb dW_law_851 ?_
  refine lv_topi (fun z7 e7 => ?_)
  obtain rfl : z7 = nI (i + 2) := by rw [e7]; exact nI_add _ _
  refine va_sld hx hb hX hbl hbA hS (inN) dW_law_852 ?_
  refine lv_topi (fun z8 e8 => ?_)
  obtain rfl : z8 = xs (i + 2) := by rw [e8, clN]
  refine cvi (va_runV (As := [.int (xs (i + 1)), .int (xs (i + 2))]) (rest := []) ⟨hx, hb, hml, hown, hA9⟩ (c_M_most l D cI cO cJ 41 ad ce1 _ (by omega) th rl n gc ((fr1 34 (by omega)).trans i34) mt ((fr1 36 (by omega)).trans i36) f hmt hf hn cg9 ((fr1 37 (by omega)).trans i37) (xs (i + 1)) (xs (i + 2))) (cwV 2 hA9 (gV mlW_100 miM_most msM_most mn_M mkM_most) rfl rfl rfl (by decide +kernel) ⟨Nat.le_of_ble_eq_true rfl, Nat.le_of_ble_eq_true rfl⟩) ⟨PM_bl, wx_recv hK hP (by omega) (((fr1 34 (by omega)).trans i34)) rfl, PM_mk hK hP hD⟩ rfl rfl hl.1 rfl (lv_room (Nat.le_of_ble_eq_true rfl)) dW_law_853 ⟨by show cells + 1 + 0 ≤ 601024; omega, by show slots + 6 + 0 ≤ 7293034; omega⟩) hS hD hA (fun r6 ce3 H locs hq2 hP hD hS => ?_)
  refine lv_istore (lv' := [(6, .int r6), (5, .int r5), (4, .int (nI i)), (3, .ref (ad 40)), (2, .ref (ad 34)), (1, .ref (ad 0)), (0, .ref b)]) hx hb dW_law_856 hl (by decide) rfl (fun ls hl => ?_)
  obtain ⟨fr3, ⟨g7, m37⟩, hq2⟩ := hq2
  replace hq2 := Or.symm hq2
  rcases hq1 with ⟨e5, r1, ce2, g1, ⟨-, u, v, o1, k2, k3, k5, k6, k7, k8⟩, fr, k40, hg⟩ | ⟨e5, hce, no⟩
  · rcases hq2 with ⟨u9, v9, o2, j2, j3, j5, j6, j7, j8, m34⟩ | ⟨no2, -, m34⟩
    · skip
      obtain rfl : u = u9 := eqN (k5.symm.trans j5)
      obtain rfl : v = v9 := eqN (k6.symm.trans j6)
      refine tail C (off := 28) (by show cells + 1 + 0 ≤ 601024; omega) (by show slots + 6 + 0 ≤ 7293034; omega) hP (m34) ((fr3 40 (by omega) (by omega)).trans k40) hl dW_law_858 dW_law_859 dW_law_862 dW_law_864 dW_law_869 dW_law_871 dW_law_874 dW_law_875 dW_law_876 dW_law_877 dW_law_879 dW_law_880 dW_law_881 dW_law_886 (by decide) (e5.symm) (fun _ => by rw [hg, k7, j7, k8.one j8]) ?_
      refine W.widen (k := cells + 2) (n := slots + 12) (by omega) (by omega) ?_
      exact kk ce3 rl H locs ls (hV.q (fun j a1 a2 a3 => (fr3 j a1 a2).trans (fr1 j a3)) m34 (m37) ((fr3 40 (by omega) (by omega)).trans k40)) (by omega) hP hD hS (lv_sub hl [2, 3, 4, 5, 6] rfl)
    · exact absurd ⟨u, v, k2, k3, k5, k6⟩ no2
  · rcases hq2 with ⟨u9, v9, o2, j2, j3, j5, j6, j7, j8, m34⟩ | ⟨no2, -, m34⟩
    · exact absurd ⟨u9, v9, j2, j3, j5, j6⟩ no
    · skip
      refine tail C (off := 28) (by show cells + 1 + 0 ≤ 601024; omega) (by show slots + 6 + 0 ≤ 7293034; omega) hP (m34) ((fr3 40 (by omega) (by omega)).trans ((congrFun hce 40).trans i40)) hl dW_law_858 dW_law_859 dW_law_862 dW_law_864 dW_law_869 dW_law_871 dW_law_874 dW_law_875 dW_law_876 dW_law_877 dW_law_879 dW_law_880 dW_law_881 dW_law_886 (by decide) (e5.symm) (fun q9 => absurd (e5.symm.trans q9) (by decide +kernel)) ?_
      refine W.widen (k := cells + 2) (n := slots + 12) (by omega) (by omega) ?_
      exact kk ce3 rl H locs ls (hV.q (fun j a1 a2 a3 => (fr3 j a1 a2).trans (fr1 j a3)) m34 (m37) ((fr3 40 (by omega) (by omega)).trans ((congrFun hce 40).trans i40))) (by omega) hP hD hS (lv_sub hl [2, 3, 4, 5, 6] rfl)

set_option maxHeartbeats 4000000 in
set_option maxRecDepth 100000 in
theorem q_place (C : LX p l s m c b L xs D cI cO cJ A) {i : Nat} (hi : i + 4 ≤ L) (hL : L ≤ 2048) {rl : Nat} (hI : INV cI cO cJ ad ce rl) (hrl : rl ≤ 1533) (hc : cells + 2 ≤ 601024) (hs : slots + 12 ≤ 7293034) (hP : va_P D CLS (wx 41 ad ce) H) (hD : va_D A (wx 41 ad ce)) (hS : va_S A s.heap H locs) (hl : lv_has ls 7 [(4, .int (nI i)), (3, .ref (ad 40)), (2, .ref (ad 34)), (1, .ref (ad 0)), (0, .ref b)])
    (kk : ∀ (ce1 : Nat → va_E) (rl1 : Nat) (H : Heap) (locs : List Loc) (ls : Array Slot), INV cI cO cJ ad ce1 rl1 → rl1 ≤ rl + 3 → va_P D CLS (wx 41 ad ce1) H → va_D A (wx 41 ad ce1) → va_S A s.heap H locs → lv_has ls 7 [(4, .int (nI i)), (3, .ref (ad 40)), (2, .ref (ad 34)), (1, .ref (ad 0)), (0, .ref b)] → W p l e room_1 s m #[Value.ref b] below meth c H locs (cells + 2) (slots + 12) Q (F0 m 914 ls [])) : W p l e room_1 s m #[Value.ref b] below meth c H locs cells slots Q (F0 m 389 ls []) := by
  obtain ⟨hx, hb, hml, hown, hA9, hX, hbl, hlt, hK, hE, hA, hbA⟩ := id C
  obtain ⟨os, n, f, gc, row, o4, o5, gr, mt, cg9, ga, gb, th, wv, tv, g, hV⟩ := hI
  obtain ⟨hT, hW, hf, i0, i1, hr5, ⟨i4, h4⟩, ⟨i5, h5⟩, i33, hgc, i34, i35, i36, hmt, i37, i38, i39, hwt, i40⟩ := id hV
  have hn := hT.2.2.2
  refine lv_aload_n hx hb dW_law_389 rfl (lv_at hl 3 rfl) ?_
  refine lv_aload_n hx hb dW_law_390 rfl (lv_at hl 4 rfl) ?_
  refine lv_iload hx hb dW_law_391 (lv_at hl 0 rfl) ?_
  refine lv_iconst (v := nI 1) hx hb dW_law_393 (by decide +kernel) ?_
  refine lv_iadd hx hb dW_law_394 ?_
  refine lv_topi (fun z1 e1 => ?_)
  obtain rfl : z1 = nI (i + 1) := by rw [e1]; exact nI_add _ _
  refine va_sld hx hb hX hbl hbA hS (inN) dW_law_395 ?_
  refine lv_topi (fun z2 e2 => ?_)
  obtain rfl : z2 = xs (i + 1) := by rw [e2, clN]
  refine lv_aload_n hx hb dW_law_396 rfl (lv_at hl 4 rfl) ?_
  refine lv_iload hx hb dW_law_397 (lv_at hl 0 rfl) ?_
  refine lv_iconst (v := nI 2) hx hb dW_law_399 (by decide +kernel) ?_
  refine lv_iadd hx hb dW_law_400 ?_
  refine lv_topi (fun z3 e3 => ?_)
  obtain rfl : z3 = nI (i + 2) := by rw [e3]; exact nI_add _ _
  refine va_sld hx hb hX hbl hbA hS (inN) dW_law_401 ?_
  refine lv_topi (fun z4 e4 => ?_)
  obtain rfl : z4 = xs (i + 2) := by rw [e4, clN]
  refine lv_aload_n hx hb dW_law_402 rfl (lv_at hl 1 rfl) ?_
  refine cvi (vx_runSW (As := [.ref (ad 0), .int (xs (i + 1)), .int (xs (i + 2)), .ref (ad 40)]) (rest := []) ⟨hx, hb, hml, hown, hA9⟩ (c_W_place l hlt D cI cO cJ ad ce _ os n hT rl gc i0 f hW hf g i40 (xs (i + 1)) (xs (i + 2))) (vx_cwSW 4 hA9 (gSW mlW_79 mtW_place mn_W mkW_place) rfl rfl rfl (by decide +kernel) ⟨Nat.le_of_ble_eq_true rfl, Nat.le_of_ble_eq_true rfl⟩) ⟨PX_bl, PX_mk hK hP hD hE hS hA⟩ rfl rfl hl.1 rfl (lv_room (Nat.le_of_ble_eq_true rfl)) dW_law_403 ⟨by show cells + 2 ≤ 601024; omega, by show slots + 12 ≤ 7293034; omega⟩) hS hD hA (fun r5 ce1 H locs hq1 hP hD hS => ?_)
  have fr1 : ∀ j, j ≠ 40 → ce1 j = ce j := fun j q0  => by
    rcases hq1 with ⟨-, r1, ce2, g1, ⟨hce, -⟩, fr, -⟩ | ⟨-, hce, -⟩ | ⟨-, hce, -⟩
    · rw [fr j q0, hce]
    · rw [hce]
    · rw [hce]
  refine lv_istore (lv' := [(5, .int r5), (4, .int (nI i)), (3, .ref (ad 40)), (2, .ref (ad 34)), (1, .ref (ad 0)), (0, .ref b)]) hx hb dW_law_406 hl (by decide) rfl (fun ls hl => ?_)
  refine lv_aload_n hx hb dW_law_408 rfl (lv_at hl 3 rfl) ?_
  refine lv_aload_n hx hb dW_law_409 rfl (lv_at hl 5 rfl) ?_
  refine lv_iload hx hb dW_law_410 (lv_at hl 1 rfl) ?_
  refine lv_iconst (v := nI 1) hx hb dW_law_412 (by decide +kernel) ?_
  refine lv_iadd hx hb dW_law_413 ?_
  refine lv_topi (fun z5 e5 => ?_)
  obtain rfl : z5 = nI (i + 1) := by rw [e5]; exact nI_add _ _
  refine va_sld hx hb hX hbl hbA hS (inN) dW_law_414 ?_
  refine lv_topi (fun z6 e6 => ?_)
  obtain rfl : z6 = xs (i + 1) := by rw [e6, clN]
  refine lv_aload_n hx hb dW_law_415 rfl (lv_at hl 5 rfl) ?_
  refine lv_iload hx hb dW_law_416 (lv_at hl 1 rfl) ?_
  refine lv_iconst (v := nI 2) hx hb dW_law_418 (by decide +kernel) ?_
  refine lv_iadd hx hb dW_law_419 ?_
  refine lv_topi (fun z7 e7 => ?_)
  obtain rfl : z7 = nI (i + 2) := by rw [e7]; exact nI_add _ _
  refine va_sld hx hb hX hbl hbA hS (inN) dW_law_420 ?_
  refine lv_topi (fun z8 e8 => ?_)
  obtain rfl : z8 = xs (i + 2) := by rw [e8, clN]
  refine cvi (va_runV (As := [.int (xs (i + 1)), .int (xs (i + 2))]) (rest := []) ⟨hx, hb, hml, hown, hA9⟩ (c_M_place l D cI cO cJ 41 ad ce1 _ (by omega) th rl n gc ((fr1 34 (by omega)).trans i34) mt ((fr1 36 (by omega)).trans i36) f hmt hf hn (xs (i + 1)) (xs (i + 2))) (cwV 2 hA9 (gV mlW_82 miM_place msM_place mn_M mkM_place) rfl rfl rfl (by decide +kernel) ⟨Nat.le_of_ble_eq_true rfl, Nat.le_of_ble_eq_true rfl⟩) ⟨PM_bl, wx_recv hK hP (by omega) (((fr1 34 (by omega)).trans i34)) rfl, PM_mk hK hP hD⟩ rfl rfl hl.1 rfl (lv_room (Nat.le_of_ble_eq_true rfl)) dW_law_421 ⟨by show cells + 2 + 0 ≤ 601024; omega, by show slots + 12 + 0 ≤ 7293034; omega⟩) hS hD hA (fun r6 ce3 H locs hq2 hP hD hS => ?_)
  refine lv_istore (lv' := [(6, .int r6), (5, .int r5), (4, .int (nI i)), (3, .ref (ad 40)), (2, .ref (ad 34)), (1, .ref (ad 0)), (0, .ref b)]) hx hb dW_law_424 hl (by decide) rfl (fun ls hl => ?_)
  obtain ⟨fr3, hq2⟩ := hq2
  replace hq2 := or_rot hq2
  rcases hq1 with ⟨e5, r1, ce2, g1, ⟨-, y, a, k1, k2, k3, k4, k5, k6⟩, fr, k40, hg⟩ | ⟨e5, hce, no⟩ | ⟨e5, hce, y, k1, k2, no⟩
  · rcases hq2 with ⟨y9, a9, j1, j2, j3, j4, j5, j6, m34⟩ | ⟨no2, -, m34⟩ | ⟨y9, j1, j2, no2, -, m34⟩
    · skip
      obtain rfl : y = y9 := eqN (k2.symm.trans j2)
      have b1 := cn_le (fun j => decide (f j = y)) a
      have b2 := cn_le (fun j => decide (f j = y)) a9
      obtain rfl : a = a9 := cn_kth1 (p := fun j => decide (f j = y)) (decide_eq_true k4) (decide_eq_true j4) (eqN (k5.symm.trans j5))
      refine tail C (off := 460) (by show cells + 2 + 0 ≤ 601024; omega) (by show slots + 12 + 0 ≤ 7293034; omega) hP (m34) ((fr3 40 (by omega)).trans k40) hl dW_law_426 dW_law_427 dW_law_430 dW_law_432 dW_law_437 dW_law_439 dW_law_442 dW_law_443 dW_law_444 dW_law_445 dW_law_447 dW_law_448 dW_law_449 dW_law_454 (by decide) (e5.symm) (fun _ => by rw [hg, k6, j6]) ?_
      refine W.widen (k := cells + 2) (n := slots + 12) (by omega) (by omega) ?_
      exact kk ce3 rl H locs ls (hV.q (fun j a1 a2 a3 => (fr3 j a1).trans (fr1 j a3)) m34 ((fr3 37 (by omega)).trans ((fr1 37 (by omega)).trans i37)) ((fr3 40 (by omega)).trans k40)) (by omega) hP hD hS (lv_sub hl [2, 3, 4, 5, 6] rfl)
    · exact absurd ⟨y, k1, k2⟩ no2
    · obtain rfl : y = y9 := eqN (k2.symm.trans j2)
      exact absurd ⟨a, k3, k4, k5⟩ no2
  · rcases hq2 with ⟨y9, a9, j1, j2, j3, j4, j5, j6, m34⟩ | ⟨no2, -, m34⟩ | ⟨y9, j1, j2, no2, -, m34⟩
    · exact absurd ⟨y9, j1, j2⟩ no
    · skip
      refine tail C (off := 460) (by show cells + 2 + 0 ≤ 601024; omega) (by show slots + 12 + 0 ≤ 7293034; omega) hP (m34) ((fr3 40 (by omega)).trans ((congrFun hce 40).trans i40)) hl dW_law_426 dW_law_427 dW_law_430 dW_law_432 dW_law_437 dW_law_439 dW_law_442 dW_law_443 dW_law_444 dW_law_445 dW_law_447 dW_law_448 dW_law_449 dW_law_454 (by decide) (e5.symm) (fun q9 => absurd (e5.symm.trans q9) (by decide +kernel)) ?_
      refine W.widen (k := cells + 2) (n := slots + 12) (by omega) (by omega) ?_
      exact kk ce3 rl H locs ls (hV.q (fun j a1 a2 a3 => (fr3 j a1).trans (fr1 j a3)) m34 ((fr3 37 (by omega)).trans ((fr1 37 (by omega)).trans i37)) ((fr3 40 (by omega)).trans ((congrFun hce 40).trans i40))) (by omega) hP hD hS (lv_sub hl [2, 3, 4, 5, 6] rfl)
    · exact absurd ⟨y9, j1, j2⟩ no
  · rcases hq2 with ⟨y9, a9, j1, j2, j3, j4, j5, j6, m34⟩ | ⟨no2, -, m34⟩ | ⟨y9, j1, j2, no2, -, m34⟩
    · obtain rfl : y = y9 := eqN (k2.symm.trans j2)
      exact absurd ⟨a9, j3, j4, j5⟩ no
    · exact absurd ⟨y, k1, k2⟩ no2
    · skip
      refine tail C (off := 460) (by show cells + 2 + 0 ≤ 601024; omega) (by show slots + 12 + 0 ≤ 7293034; omega) hP (m34) ((fr3 40 (by omega)).trans ((congrFun hce 40).trans i40)) hl dW_law_426 dW_law_427 dW_law_430 dW_law_432 dW_law_437 dW_law_439 dW_law_442 dW_law_443 dW_law_444 dW_law_445 dW_law_447 dW_law_448 dW_law_449 dW_law_454 (by decide) (e5.symm) (fun q9 => absurd (e5.symm.trans q9) (by decide +kernel)) ?_
      refine W.widen (k := cells + 2) (n := slots + 12) (by omega) (by omega) ?_
      exact kk ce3 rl H locs ls (hV.q (fun j a1 a2 a3 => (fr3 j a1).trans (fr1 j a3)) m34 ((fr3 37 (by omega)).trans ((fr1 37 (by omega)).trans i37)) ((fr3 40 (by omega)).trans ((congrFun hce 40).trans i40))) (by omega) hP hD hS (lv_sub hl [2, 3, 4, 5, 6] rfl)

set_option maxHeartbeats 4000000 in
set_option maxRecDepth 100000 in
theorem q_least (C : LX p l s m c b L xs D cI cO cJ A) {i : Nat} (hi : i + 4 ≤ L) (hL : L ≤ 2048) {rl : Nat} (hI : INV cI cO cJ ad ce rl) (hrl : rl ≤ 1533) (hc : cells + 2 ≤ 601024) (hs : slots + 12 ≤ 7293034) (hP : va_P D CLS (wx 41 ad ce) H) (hD : va_D A (wx 41 ad ce)) (hS : va_S A s.heap H locs) (hl : lv_has ls 7 [(4, .int (nI i)), (3, .ref (ad 40)), (2, .ref (ad 34)), (1, .ref (ad 0)), (0, .ref b)])
    (kk : ∀ (ce1 : Nat → va_E) (rl1 : Nat) (H : Heap) (locs : List Loc) (ls : Array Slot), INV cI cO cJ ad ce1 rl1 → rl1 ≤ rl + 3 → va_P D CLS (wx 41 ad ce1) H → va_D A (wx 41 ad ce1) → va_S A s.heap H locs → lv_has ls 7 [(4, .int (nI i)), (3, .ref (ad 40)), (2, .ref (ad 34)), (1, .ref (ad 0)), (0, .ref b)] → W p l e room_1 s m #[Value.ref b] below meth c H locs (cells + 2) (slots + 12) Q (F0 m 914 ls [])) : W p l e room_1 s m #[Value.ref b] below meth c H locs cells slots Q (F0 m 457 ls []) := by
  obtain ⟨hx, hb, hml, hown, hA9, hX, hbl, hlt, hK, hE, hA, hbA⟩ := id C
  obtain ⟨os, n, f, gc, row, o4, o5, gr, mt, cg9, ga, gb, th, wv, tv, g, hV⟩ := hI
  obtain ⟨hT, hW, hf, i0, i1, hr5, ⟨i4, h4⟩, ⟨i5, h5⟩, i33, hgc, i34, i35, i36, hmt, i37, i38, i39, hwt, i40⟩ := id hV
  have hn := hT.2.2.2
  refine lv_aload_n hx hb dW_law_457 rfl (lv_at hl 3 rfl) ?_
  refine lv_aload_n hx hb dW_law_458 rfl (lv_at hl 4 rfl) ?_
  refine lv_iload hx hb dW_law_459 (lv_at hl 0 rfl) ?_
  refine lv_iconst (v := nI 1) hx hb dW_law_461 (by decide +kernel) ?_
  refine lv_iadd hx hb dW_law_462 ?_
  refine lv_topi (fun z1 e1 => ?_)
  obtain rfl : z1 = nI (i + 1) := by rw [e1]; exact nI_add _ _
  refine va_sld hx hb hX hbl hbA hS (inN) dW_law_463 ?_
  refine lv_topi (fun z2 e2 => ?_)
  obtain rfl : z2 = xs (i + 1) := by rw [e2, clN]
  refine lv_aload_n hx hb dW_law_464 rfl (lv_at hl 4 rfl) ?_
  refine lv_iload hx hb dW_law_465 (lv_at hl 0 rfl) ?_
  refine lv_iconst (v := nI 2) hx hb dW_law_467 (by decide +kernel) ?_
  refine lv_iadd hx hb dW_law_468 ?_
  refine lv_topi (fun z3 e3 => ?_)
  obtain rfl : z3 = nI (i + 2) := by rw [e3]; exact nI_add _ _
  refine va_sld hx hb hX hbl hbA hS (inN) dW_law_469 ?_
  refine lv_topi (fun z4 e4 => ?_)
  obtain rfl : z4 = xs (i + 2) := by rw [e4, clN]
  refine lv_aload_n hx hb dW_law_470 rfl (lv_at hl 4 rfl) ?_
  refine lv_iload hx hb dW_law_471 (lv_at hl 0 rfl) ?_
  refine lv_iconst (v := nI 3) hx hb dW_law_473 (by decide +kernel) ?_
  refine lv_iadd hx hb dW_law_474 ?_
  refine lv_topi (fun z5 e5 => ?_)
  obtain rfl : z5 = nI (i + 3) := by rw [e5]; exact nI_add _ _
  refine va_sld hx hb hX hbl hbA hS (inN) dW_law_475 ?_
  refine lv_topi (fun z6 e6 => ?_)
  obtain rfl : z6 = xs (i + 3) := by rw [e6, clN]
  refine lv_aload_n hx hb dW_law_476 rfl (lv_at hl 1 rfl) ?_
  refine cvi (vx_runSW (As := [.ref (ad 0), .int (xs (i + 1)), .int (xs (i + 2)), .int (xs (i + 3)), .ref (ad 40)]) (rest := []) ⟨hx, hb, hml, hown, hA9⟩ (c_W_least l hlt D cI cO cJ ad ce _ os n hT rl gc i0 f hW hf g i40 (xs (i + 1)) (xs (i + 2)) (xs (i + 3))) (vx_cwSW 5 hA9 (gSW mlW_83 mtW_least mn_W mkW_least) rfl rfl rfl (by decide +kernel) ⟨Nat.le_of_ble_eq_true rfl, Nat.le_of_ble_eq_true rfl⟩) ⟨PX_bl, PX_mk hK hP hD hE hS hA⟩ rfl rfl hl.1 rfl (lv_room (Nat.le_of_ble_eq_true rfl)) dW_law_477 ⟨by show cells + 2 ≤ 601024; omega, by show slots + 12 ≤ 7293034; omega⟩) hS hD hA (fun r5 ce1 H locs hq1 hP hD hS => ?_)
  have fr1 : ∀ j, j ≠ 40 → ce1 j = ce j := fun j q0  => by
    rcases hq1 with ⟨-, r1, ce2, g1, ⟨hce, -⟩, fr, -⟩ | ⟨-, hce, -⟩ | ⟨-, hce, -⟩
    · rw [fr j q0, hce]
    · rw [hce]
    · rw [hce]
  refine lv_istore (lv' := [(5, .int r5), (4, .int (nI i)), (3, .ref (ad 40)), (2, .ref (ad 34)), (1, .ref (ad 0)), (0, .ref b)]) hx hb dW_law_480 hl (by decide) rfl (fun ls hl => ?_)
  refine lv_aload_n hx hb dW_law_482 rfl (lv_at hl 3 rfl) ?_
  refine lv_aload_n hx hb dW_law_483 rfl (lv_at hl 5 rfl) ?_
  refine lv_iload hx hb dW_law_484 (lv_at hl 1 rfl) ?_
  refine lv_iconst (v := nI 1) hx hb dW_law_486 (by decide +kernel) ?_
  refine lv_iadd hx hb dW_law_487 ?_
  refine lv_topi (fun z7 e7 => ?_)
  obtain rfl : z7 = nI (i + 1) := by rw [e7]; exact nI_add _ _
  refine va_sld hx hb hX hbl hbA hS (inN) dW_law_488 ?_
  refine lv_topi (fun z8 e8 => ?_)
  obtain rfl : z8 = xs (i + 1) := by rw [e8, clN]
  refine lv_aload_n hx hb dW_law_489 rfl (lv_at hl 5 rfl) ?_
  refine lv_iload hx hb dW_law_490 (lv_at hl 1 rfl) ?_
  refine lv_iconst (v := nI 2) hx hb dW_law_492 (by decide +kernel) ?_
  refine lv_iadd hx hb dW_law_493 ?_
  refine lv_topi (fun z9 e9 => ?_)
  obtain rfl : z9 = nI (i + 2) := by rw [e9]; exact nI_add _ _
  refine va_sld hx hb hX hbl hbA hS (inN) dW_law_494 ?_
  refine lv_topi (fun z10 e10 => ?_)
  obtain rfl : z10 = xs (i + 2) := by rw [e10, clN]
  refine lv_aload_n hx hb dW_law_495 rfl (lv_at hl 5 rfl) ?_
  refine lv_iload hx hb dW_law_496 (lv_at hl 1 rfl) ?_
  refine lv_iconst (v := nI 3) hx hb dW_law_498 (by decide +kernel) ?_
  refine lv_iadd hx hb dW_law_499 ?_
  refine lv_topi (fun z11 e11 => ?_)
  obtain rfl : z11 = nI (i + 3) := by rw [e11]; exact nI_add _ _
  refine va_sld hx hb hX hbl hbA hS (inN) dW_law_500 ?_
  refine lv_topi (fun z12 e12 => ?_)
  obtain rfl : z12 = xs (i + 3) := by rw [e12, clN]
  refine cvi (va_runV (As := [.int (xs (i + 1)), .int (xs (i + 2)), .int (xs (i + 3))]) (rest := []) ⟨hx, hb, hml, hown, hA9⟩ (c_M_least l D cI cO cJ 41 ad ce1 _ (by omega) th rl n gc ((fr1 34 (by omega)).trans i34) mt ((fr1 36 (by omega)).trans i36) f hmt hf hn cg9 ((fr1 37 (by omega)).trans i37) (xs (i + 1)) (xs (i + 2)) (xs (i + 3))) (cwV 3 hA9 (gV mlW_85 miM_least msM_least mn_M mkM_least) rfl rfl rfl (by decide +kernel) ⟨Nat.le_of_ble_eq_true rfl, Nat.le_of_ble_eq_true rfl⟩) ⟨PM_bl, wx_recv hK hP (by omega) (((fr1 34 (by omega)).trans i34)) rfl, PM_mk hK hP hD⟩ rfl rfl hl.1 rfl (lv_room (Nat.le_of_ble_eq_true rfl)) dW_law_501 ⟨by show cells + 2 + 0 ≤ 601024; omega, by show slots + 12 + 0 ≤ 7293034; omega⟩) hS hD hA (fun r6 ce3 H locs hq2 hP hD hS => ?_)
  refine lv_istore (lv' := [(6, .int r6), (5, .int r5), (4, .int (nI i)), (3, .ref (ad 40)), (2, .ref (ad 34)), (1, .ref (ad 0)), (0, .ref b)]) hx hb dW_law_504 hl (by decide) rfl (fun ls hl => ?_)
  obtain ⟨fr3, hq2, g7, m37⟩ := hq2
  replace hq2 := or_rot hq2
  rcases hq1 with ⟨e5, r1, ce2, g1, ⟨-, u, v, k0, y, k1, k2, k3, k4, k5, k6, k7, k8⟩, fr, k40, hg⟩ | ⟨e5, hce, no⟩ | ⟨e5, hce, u, v, k1, k2, k3, k4, no⟩
  · rcases hq2 with ⟨u9, v9, k9, y9, j1, j2, j3, j4, j5, j6, j7, j8, m34, -⟩ | ⟨no2, -, m34⟩ | ⟨u9, v9, j1, j2, j3, j4, no2, -, m34⟩
    · skip
      obtain rfl : u = u9 := eqN (k3.symm.trans j3)
      obtain rfl : v = v9 := eqN (k4.symm.trans j4)
      obtain rfl : k0 = k9 := eqN (k6.symm.trans j6)
      refine tail C (off := 380) (by show cells + 2 + 0 ≤ 601024; omega) (by show slots + 12 + 0 ≤ 7293034; omega) hP (m34) ((fr3 40 (by omega) (by omega)).trans k40) hl dW_law_506 dW_law_507 dW_law_510 dW_law_512 dW_law_517 dW_law_519 dW_law_522 dW_law_523 dW_law_524 dW_law_525 dW_law_527 dW_law_528 dW_law_529 dW_law_534 (by decide) (e5.symm) (fun _ => by rw [hg, k8, j8, k7.one k1 j7]) ?_
      refine W.widen (k := cells + 2) (n := slots + 12) (by omega) (by omega) ?_
      exact kk ce3 rl H locs ls (hV.q (fun j a1 a2 a3 => (fr3 j a1 a2).trans (fr1 j a3)) m34 (m37) ((fr3 40 (by omega) (by omega)).trans k40)) (by omega) hP hD hS (lv_sub hl [2, 3, 4, 5, 6] rfl)
    · exact absurd ⟨u, v, k1, k2, k3, k4⟩ no2
    · obtain rfl : u = u9 := eqN (k3.symm.trans j3)
      obtain rfl : v = v9 := eqN (k4.symm.trans j4)
      exact absurd ⟨k0, k5, k6⟩ no2
  · rcases hq2 with ⟨u9, v9, k9, y9, j1, j2, j3, j4, j5, j6, j7, j8, m34, -⟩ | ⟨no2, -, m34⟩ | ⟨u9, v9, j1, j2, j3, j4, no2, -, m34⟩
    · exact absurd ⟨u9, v9, j1, j2, j3, j4⟩ no
    · skip
      refine tail C (off := 380) (by show cells + 2 + 0 ≤ 601024; omega) (by show slots + 12 + 0 ≤ 7293034; omega) hP (m34) ((fr3 40 (by omega) (by omega)).trans ((congrFun hce 40).trans i40)) hl dW_law_506 dW_law_507 dW_law_510 dW_law_512 dW_law_517 dW_law_519 dW_law_522 dW_law_523 dW_law_524 dW_law_525 dW_law_527 dW_law_528 dW_law_529 dW_law_534 (by decide) (e5.symm) (fun q9 => absurd (e5.symm.trans q9) (by decide +kernel)) ?_
      refine W.widen (k := cells + 2) (n := slots + 12) (by omega) (by omega) ?_
      exact kk ce3 rl H locs ls (hV.q (fun j a1 a2 a3 => (fr3 j a1 a2).trans (fr1 j a3)) m34 (m37) ((fr3 40 (by omega) (by omega)).trans ((congrFun hce 40).trans i40))) (by omega) hP hD hS (lv_sub hl [2, 3, 4, 5, 6] rfl)
    · exact absurd ⟨u9, v9, j1, j2, j3, j4⟩ no
  · rcases hq2 with ⟨u9, v9, k9, y9, j1, j2, j3, j4, j5, j6, j7, j8, m34, -⟩ | ⟨no2, -, m34⟩ | ⟨u9, v9, j1, j2, j3, j4, no2, -, m34⟩
    · obtain rfl : u = u9 := eqN (k3.symm.trans j3)
      obtain rfl : v = v9 := eqN (k4.symm.trans j4)
      exact absurd ⟨k9, j5, j6⟩ no
    · exact absurd ⟨u, v, k1, k2, k3, k4⟩ no2
    · skip
      refine tail C (off := 380) (by show cells + 2 + 0 ≤ 601024; omega) (by show slots + 12 + 0 ≤ 7293034; omega) hP (m34) ((fr3 40 (by omega) (by omega)).trans ((congrFun hce 40).trans i40)) hl dW_law_506 dW_law_507 dW_law_510 dW_law_512 dW_law_517 dW_law_519 dW_law_522 dW_law_523 dW_law_524 dW_law_525 dW_law_527 dW_law_528 dW_law_529 dW_law_534 (by decide) (e5.symm) (fun q9 => absurd (e5.symm.trans q9) (by decide +kernel)) ?_
      refine W.widen (k := cells + 2) (n := slots + 12) (by omega) (by omega) ?_
      exact kk ce3 rl H locs ls (hV.q (fun j a1 a2 a3 => (fr3 j a1 a2).trans (fr1 j a3)) m34 (m37) ((fr3 40 (by omega) (by omega)).trans ((congrFun hce 40).trans i40))) (by omega) hP hD hS (lv_sub hl [2, 3, 4, 5, 6] rfl)

set_option maxHeartbeats 4000000 in
set_option maxRecDepth 100000 in
theorem q_add (C : LX p l s m c b L xs D cI cO cJ A) {i : Nat} (hi : i + 4 ≤ L) (hL : L ≤ 2048) {rl : Nat} (hI : INV cI cO cJ ad ce rl) (hrl : rl ≤ 1533) (hc : cells + 2 ≤ 601024) (hs : slots + 12 ≤ 7293034) (hP : va_P D CLS (wx 41 ad ce) H) (hD : va_D A (wx 41 ad ce)) (hS : va_S A s.heap H locs) (hl : lv_has ls 7 [(4, .int (nI i)), (3, .ref (ad 40)), (2, .ref (ad 34)), (1, .ref (ad 0)), (0, .ref b)])
    (kk : ∀ (ce1 : Nat → va_E) (rl1 : Nat) (H : Heap) (locs : List Loc) (ls : Array Slot), INV cI cO cJ ad ce1 rl1 → rl1 ≤ rl + 3 → va_P D CLS (wx 41 ad ce1) H → va_D A (wx 41 ad ce1) → va_S A s.heap H locs → lv_has ls 7 [(4, .int (nI i)), (3, .ref (ad 40)), (2, .ref (ad 34)), (1, .ref (ad 0)), (0, .ref b)] → W p l e room_1 s m #[Value.ref b] below meth c H locs (cells + 2) (slots + 12) Q (F0 m 914 ls [])) : W p l e room_1 s m #[Value.ref b] below meth c H locs cells slots Q (F0 m 104 ls []) := by
  obtain ⟨hx, hb, hml, hown, hA9, hX, hbl, hlt, hK, hE, hA, hbA⟩ := id C
  obtain ⟨os, n, f, gc, row, o4, o5, gr, mt, cg9, ga, gb, th, wv, tv, g, hV⟩ := hI
  obtain ⟨hT, hW, hf, i0, i1, hr5, ⟨i4, h4⟩, ⟨i5, h5⟩, i33, hgc, i34, i35, i36, hmt, i37, i38, i39, hwt, i40⟩ := id hV
  have hn := hT.2.2.2
  refine lv_aload_n hx hb dW_law_104 rfl (lv_at hl 3 rfl) ?_
  refine lv_aload_n hx hb dW_law_105 rfl (lv_at hl 4 rfl) ?_
  refine lv_iload hx hb dW_law_106 (lv_at hl 0 rfl) ?_
  refine lv_iconst (v := nI 1) hx hb dW_law_108 (by decide +kernel) ?_
  refine lv_iadd hx hb dW_law_109 ?_
  refine lv_topi (fun z1 e1 => ?_)
  obtain rfl : z1 = nI (i + 1) := by rw [e1]; exact nI_add _ _
  refine va_sld hx hb hX hbl hbA hS (inN) dW_law_110 ?_
  refine lv_topi (fun z2 e2 => ?_)
  obtain rfl : z2 = xs (i + 1) := by rw [e2, clN]
  refine lv_aload_n hx hb dW_law_111 rfl (lv_at hl 4 rfl) ?_
  refine lv_iload hx hb dW_law_112 (lv_at hl 0 rfl) ?_
  refine lv_iconst (v := nI 2) hx hb dW_law_114 (by decide +kernel) ?_
  refine lv_iadd hx hb dW_law_115 ?_
  refine lv_topi (fun z3 e3 => ?_)
  obtain rfl : z3 = nI (i + 2) := by rw [e3]; exact nI_add _ _
  refine va_sld hx hb hX hbl hbA hS (inN) dW_law_116 ?_
  refine lv_topi (fun z4 e4 => ?_)
  obtain rfl : z4 = xs (i + 2) := by rw [e4, clN]
  refine lv_aload_n hx hb dW_law_117 rfl (lv_at hl 4 rfl) ?_
  refine lv_iload hx hb dW_law_118 (lv_at hl 0 rfl) ?_
  refine lv_iconst (v := nI 3) hx hb dW_law_120 (by decide +kernel) ?_
  refine lv_iadd hx hb dW_law_121 ?_
  refine lv_topi (fun z5 e5 => ?_)
  obtain rfl : z5 = nI (i + 3) := by rw [e5]; exact nI_add _ _
  refine va_sld hx hb hX hbl hbA hS (inN) dW_law_122 ?_
  refine lv_topi (fun z6 e6 => ?_)
  obtain rfl : z6 = xs (i + 3) := by rw [e6, clN]
  refine lv_aload_n hx hb dW_law_123 rfl (lv_at hl 1 rfl) ?_
  refine cvi (vx_runSW (As := [.ref (ad 0), .int (xs (i + 1)), .int (xs (i + 2)), .int (xs (i + 3)), .ref (ad 40)]) (rest := []) ⟨hx, hb, hml, hown, hA9⟩ (c_W_add l hlt D cI cO cJ ad ce _ rl gc i0 row i1 (by omega) g i40 (xs (i + 1)) (xs (i + 2)) (xs (i + 3))) (vx_cwSW 5 hA9 (gSW mlW_55 mtW_add mn_W mkW_add) rfl rfl rfl (by decide +kernel) ⟨Nat.le_of_ble_eq_true rfl, Nat.le_of_ble_eq_true rfl⟩) ⟨PX_bl, PX_mk hK hP hD hE hS hA⟩ rfl rfl hl.1 rfl (lv_room (Nat.le_of_ble_eq_true rfl)) dW_law_124 ⟨by show cells + 0 ≤ 601024; omega, by show slots + 0 ≤ 7293034; omega⟩) hS hD hA (fun r5 ce1 H locs hq1 hP hD hS => ?_)
  have fr1 : ∀ j, j ≠ 40 → j ≠ 0 → j ≠ 1 → ce1 j = ce j := fun j q0 q1 q2 => by
    obtain ⟨-, r1, ce2, g1, ⟨-, fr2, -⟩, fr, -⟩ := hq1
    exact (fr j q0).trans (fr2 j q1 q2)
  refine lv_istore (lv' := [(5, .int r5), (4, .int (nI i)), (3, .ref (ad 40)), (2, .ref (ad 34)), (1, .ref (ad 0)), (0, .ref b)]) hx hb dW_law_127 hl (by decide) rfl (fun ls hl => ?_)
  refine lv_aload_n hx hb dW_law_129 rfl (lv_at hl 3 rfl) ?_
  refine lv_aload_n hx hb dW_law_130 rfl (lv_at hl 5 rfl) ?_
  refine lv_iload hx hb dW_law_131 (lv_at hl 1 rfl) ?_
  refine lv_iconst (v := nI 1) hx hb dW_law_133 (by decide +kernel) ?_
  refine lv_iadd hx hb dW_law_134 ?_
  refine lv_topi (fun z7 e7 => ?_)
  obtain rfl : z7 = nI (i + 1) := by rw [e7]; exact nI_add _ _
  refine va_sld hx hb hX hbl hbA hS (inN) dW_law_135 ?_
  refine lv_topi (fun z8 e8 => ?_)
  obtain rfl : z8 = xs (i + 1) := by rw [e8, clN]
  refine lv_aload_n hx hb dW_law_136 rfl (lv_at hl 5 rfl) ?_
  refine lv_iload hx hb dW_law_137 (lv_at hl 1 rfl) ?_
  refine lv_iconst (v := nI 2) hx hb dW_law_139 (by decide +kernel) ?_
  refine lv_iadd hx hb dW_law_140 ?_
  refine lv_topi (fun z9 e9 => ?_)
  obtain rfl : z9 = nI (i + 2) := by rw [e9]; exact nI_add _ _
  refine va_sld hx hb hX hbl hbA hS (inN) dW_law_141 ?_
  refine lv_topi (fun z10 e10 => ?_)
  obtain rfl : z10 = xs (i + 2) := by rw [e10, clN]
  refine lv_aload_n hx hb dW_law_142 rfl (lv_at hl 5 rfl) ?_
  refine lv_iload hx hb dW_law_143 (lv_at hl 1 rfl) ?_
  refine lv_iconst (v := nI 3) hx hb dW_law_145 (by decide +kernel) ?_
  refine lv_iadd hx hb dW_law_146 ?_
  refine lv_topi (fun z11 e11 => ?_)
  obtain rfl : z11 = nI (i + 3) := by rw [e11]; exact nI_add _ _
  refine va_sld hx hb hX hbl hbA hS (inN) dW_law_147 ?_
  refine lv_topi (fun z12 e12 => ?_)
  obtain rfl : z12 = xs (i + 3) := by rw [e12, clN]
  refine cvi (va_runV (As := [.int (xs (i + 1)), .int (xs (i + 2)), .int (xs (i + 3))]) (rest := []) ⟨hx, hb, hml, hown, hA9⟩ (c_M_add l D cI cO cJ 41 ad ce1 _ (by omega) th rl n gc ((fr1 34 (by omega) (by omega) (by omega)).trans i34) row ((fr1 35 (by omega) (by omega) (by omega)).trans i35) (by omega) (xs (i + 1)) (xs (i + 2)) (xs (i + 3))) (cwV 3 hA9 (gV mlW_60 miM_add msM_add mn_M mkM_add) rfl rfl rfl (by decide +kernel) ⟨Nat.le_of_ble_eq_true rfl, Nat.le_of_ble_eq_true rfl⟩) ⟨PM_bl, wx_recv hK hP (by omega) (((fr1 34 (by omega) (by omega) (by omega)).trans i34)) rfl, PM_mk hK hP hD⟩ rfl rfl hl.1 rfl (lv_room (Nat.le_of_ble_eq_true rfl)) dW_law_148 ⟨by show cells + 0 + 0 ≤ 601024; omega, by show slots + 0 + 0 ≤ 7293034; omega⟩) hS hD hA (fun r6 ce3 H locs hq2 hP hD hS => ?_)
  refine lv_istore (lv' := [(6, .int r6), (5, .int r5), (4, .int (nI i)), (3, .ref (ad 40)), (2, .ref (ad 34)), (1, .ref (ad 0)), (0, .ref b)]) hx hb dW_law_151 hl (by decide) rfl (fun ls hl => ?_)
  obtain ⟨e6, fr3, m34, m35⟩ := hq2
  obtain ⟨e5, r1, ce2, g1, ⟨k1, fr2, k20, k21⟩, fr, k40, hg⟩ := hq1
  have h40 : ce3 40 = .inl (cJ, 1, .inr (.inl g1)) := (fr3 40 (by omega) (by omega)).trans k40
  have hF : ∀ j, j ≠ 0 → j ≠ 1 → j ≠ 34 → j ≠ 35 → j ≠ 40 → ce3 j = ce j := fun j a1 a2 a3 a4 a5 => (fr3 j a3 a4).trans (fr1 j a5 a1 a2)
  refine tail C (off := 733) (by show cells + 0 + 0 ≤ 601024; omega) (by show slots + 0 + 0 ≤ 7293034; omega) hP (m34) (h40) hl dW_law_153 dW_law_154 dW_law_157 dW_law_159 dW_law_164 dW_law_166 dW_law_169 dW_law_170 dW_law_171 dW_law_172 dW_law_174 dW_law_175 dW_law_176 dW_law_181 (by decide) (e5.symm) (fun _ => by rw [hg, k1, e6]) ?_
  refine W.widen (k := cells + 2) (n := slots + 12) (by omega) (by omega) ?_
  exact kk ce3 (rl + 3) H locs ls (⟨os, n, f, gc, (upd (upd (upd row rl (nI (m9 (xs (i + 1))))) (rl + 1) (nI (m9 (xs (i + 2))))) (rl + 2) (nI (m9 (xs (i + 3))))), o4, o5, gr, mt, cg9, ga, gb, nI 0, wv, tv, g1, hT.cg (fun j hj => (hF j (by omega) (by omega) (by omega) (by omega) (by omega))), hW, hf, (fr3 0 (by omega) (by omega)).trans ((fr 0 (by omega)).trans k20), (fr3 1 (by omega) (by omega)).trans ((fr 1 (by omega)).trans k21), ((hr5.u (m9_lt _)).u (m9_lt _)).u (m9_lt _), ⟨(hF 4 (by omega) (by omega) (by omega) (by omega) (by omega)).trans i4, h4⟩, ⟨(hF 5 (by omega) (by omega) (by omega) (by omega) (by omega)).trans i5, h5⟩, (hF 33 (by omega) (by omega) (by omega) (by omega) (by omega)).trans i33, hgc, m34, m35, (hF 36 (by omega) (by omega) (by omega) (by omega) (by omega)).trans i36, hmt, (hF 37 (by omega) (by omega) (by omega) (by omega) (by omega)).trans i37, (hF 38 (by omega) (by omega) (by omega) (by omega) (by omega)).trans i38, (hF 39 (by omega) (by omega) (by omega) (by omega) (by omega)).trans i39, hwt, h40⟩) (by omega) hP hD hS (lv_sub hl [2, 3, 4, 5, 6] rfl)

set_option maxHeartbeats 4000000 in
set_option maxRecDepth 100000 in
theorem q_cut (C : LX p l s m c b L xs D cI cO cJ A) {i : Nat} (hi : i + 4 ≤ L) (hL : L ≤ 2048) {rl : Nat} (hI : INV cI cO cJ ad ce rl) (hrl : rl ≤ 1533) (hc : cells + 2 ≤ 601024) (hs : slots + 12 ≤ 7293034) (hP : va_P D CLS (wx 41 ad ce) H) (hD : va_D A (wx 41 ad ce)) (hS : va_S A s.heap H locs) (hl : lv_has ls 7 [(4, .int (nI i)), (3, .ref (ad 40)), (2, .ref (ad 34)), (1, .ref (ad 0)), (0, .ref b)])
    (kk : ∀ (ce1 : Nat → va_E) (rl1 : Nat) (H : Heap) (locs : List Loc) (ls : Array Slot), INV cI cO cJ ad ce1 rl1 → rl1 ≤ rl + 3 → va_P D CLS (wx 41 ad ce1) H → va_D A (wx 41 ad ce1) → va_S A s.heap H locs → lv_has ls 7 [(4, .int (nI i)), (3, .ref (ad 40)), (2, .ref (ad 34)), (1, .ref (ad 0)), (0, .ref b)] → W p l e room_1 s m #[Value.ref b] below meth c H locs (cells + 2) (slots + 12) Q (F0 m 914 ls [])) : W p l e room_1 s m #[Value.ref b] below meth c H locs cells slots Q (F0 m 184 ls []) := by
  obtain ⟨hx, hb, hml, hown, hA9, hX, hbl, hlt, hK, hE, hA, hbA⟩ := id C
  obtain ⟨os, n, f, gc, row, o4, o5, gr, mt, cg9, ga, gb, th, wv, tv, g, hV⟩ := hI
  obtain ⟨hT, hW, hf, i0, i1, hr5, ⟨i4, h4⟩, ⟨i5, h5⟩, i33, hgc, i34, i35, i36, hmt, i37, i38, i39, hwt, i40⟩ := id hV
  have hn := hT.2.2.2
  refine lv_aload_n hx hb dW_law_184 rfl (lv_at hl 3 rfl) ?_
  refine lv_aload_n hx hb dW_law_185 rfl (lv_at hl 4 rfl) ?_
  refine lv_iload hx hb dW_law_186 (lv_at hl 0 rfl) ?_
  refine lv_iconst (v := nI 1) hx hb dW_law_188 (by decide +kernel) ?_
  refine lv_iadd hx hb dW_law_189 ?_
  refine lv_topi (fun z1 e1 => ?_)
  obtain rfl : z1 = nI (i + 1) := by rw [e1]; exact nI_add _ _
  refine va_sld hx hb hX hbl hbA hS (inN) dW_law_190 ?_
  refine lv_topi (fun z2 e2 => ?_)
  obtain rfl : z2 = xs (i + 1) := by rw [e2, clN]
  refine lv_aload_n hx hb dW_law_191 rfl (lv_at hl 1 rfl) ?_
  refine cvi (vx_runSW (As := [.ref (ad 0), .int (xs (i + 1)), .ref (ad 40)]) (rest := []) ⟨hx, hb, hml, hown, hA9⟩ (c_W_cut l hlt D cI cO cJ ad ce _ rl gc i0 (by omega) g i40 (xs (i + 1))) (vx_cwSW 3 hA9 (gSW mlW_65 mtW_cut mn_W mkW_cut) rfl rfl rfl (by decide +kernel) ⟨Nat.le_of_ble_eq_true rfl, Nat.le_of_ble_eq_true rfl⟩) ⟨PX_bl, PX_mk hK hP hD hE hS hA⟩ rfl rfl hl.1 rfl (lv_room (Nat.le_of_ble_eq_true rfl)) dW_law_192 ⟨by show cells + 1 ≤ 601024; omega, by show slots + 6 ≤ 7293034; omega⟩) hS hD hA (fun r5 ce1 H locs hq1 hP hD hS => ?_)
  have fr1 : ∀ j, j ≠ 40 → j ≠ 0 → ce1 j = ce j := fun j q0 q1 => by
    rcases hq1 with ⟨-, r1, ce2, g1, ⟨k, -, -, -, fr2, -⟩, fr, -⟩ | ⟨-, hce, -⟩
    · exact (fr j q0).trans (fr2 j q1)
    · rw [hce]
  refine lv_istore (lv' := [(5, .int r5), (4, .int (nI i)), (3, .ref (ad 40)), (2, .ref (ad 34)), (1, .ref (ad 0)), (0, .ref b)]) hx hb dW_law_195 hl (by decide) rfl (fun ls hl => ?_)
  refine lv_aload_n hx hb dW_law_197 rfl (lv_at hl 3 rfl) ?_
  refine lv_aload_n hx hb dW_law_198 rfl (lv_at hl 5 rfl) ?_
  refine lv_iload hx hb dW_law_199 (lv_at hl 1 rfl) ?_
  refine lv_iconst (v := nI 1) hx hb dW_law_201 (by decide +kernel) ?_
  refine lv_iadd hx hb dW_law_202 ?_
  refine lv_topi (fun z3 e3 => ?_)
  obtain rfl : z3 = nI (i + 1) := by rw [e3]; exact nI_add _ _
  refine va_sld hx hb hX hbl hbA hS (inN) dW_law_203 ?_
  refine lv_topi (fun z4 e4 => ?_)
  obtain rfl : z4 = xs (i + 1) := by rw [e4, clN]
  refine cvi (va_runV (As := [.int (xs (i + 1))]) (rest := []) ⟨hx, hb, hml, hown, hA9⟩ (c_M_cut l D cI cO cJ 41 ad ce1 _ (by omega) th rl n gc ((fr1 34 (by omega) (by omega)).trans i34) (by omega) (xs (i + 1))) (cwV 1 hA9 (gV mlW_68 miM_cut msM_cut mn_M mkM_cut) rfl rfl rfl (by decide +kernel) ⟨Nat.le_of_ble_eq_true rfl, Nat.le_of_ble_eq_true rfl⟩) ⟨PM_bl, wx_recv hK hP (by omega) (((fr1 34 (by omega) (by omega)).trans i34)) rfl, PM_mk hK hP hD⟩ rfl rfl hl.1 rfl (lv_room (Nat.le_of_ble_eq_true rfl)) dW_law_204 ⟨by show cells + 1 + 0 ≤ 601024; omega, by show slots + 6 + 0 ≤ 7293034; omega⟩) hS hD hA (fun r6 ce3 H locs hq2 hP hD hS => ?_)
  refine lv_istore (lv' := [(6, .int r6), (5, .int r5), (4, .int (nI i)), (3, .ref (ad 40)), (2, .ref (ad 34)), (1, .ref (ad 0)), (0, .ref b)]) hx hb dW_law_207 hl (by decide) rfl (fun ls hl => ?_)
  obtain ⟨fr3, hq2⟩ := hq2
  have hF : ∀ j, j ≠ 0 → j ≠ 34 → j ≠ 40 → ce3 j = ce j := fun j a1 a3 a5 => (fr3 j a3).trans (fr1 j a5 a1)
  rcases hq1 with ⟨e5, r1, ce2, g1, ⟨k, k1, k2, k3, fr2, k20⟩, fr, k40, hg⟩ | ⟨e5, hce, no⟩
  · rcases hq2 with ⟨k9, j1, j2, j3, m34⟩ | ⟨no2, -, m34⟩
    · skip
      obtain rfl : k = k9 := eqN (k2.symm.trans j2)
      have h40 : ce3 40 = .inl (cJ, 1, .inr (.inl g1)) := (fr3 40 (by omega)).trans k40
      refine tail C (off := 677) (by show cells + 1 + 0 ≤ 601024; omega) (by show slots + 6 + 0 ≤ 7293034; omega) hP (m34) (h40) hl dW_law_209 dW_law_210 dW_law_213 dW_law_215 dW_law_220 dW_law_222 dW_law_225 dW_law_226 dW_law_227 dW_law_228 dW_law_230 dW_law_231 dW_law_232 dW_law_237 (by decide) (e5.symm) (fun _ => by rw [hg, k3, j3]) ?_
      refine W.widen (k := cells + 2) (n := slots + 12) (by omega) (by omega) ?_
      exact kk ce3 k H locs ls (⟨os, n, f, gc, row, o4, o5, gr, mt, cg9, ga, gb, nI 0, wv, tv, g1, hT.cg (fun j hj => (hF j (by omega) (by omega) (by omega))), hW, hf, (fr3 0 (by omega)).trans ((fr 0 (by omega)).trans k20), (hF 1 (by omega) (by omega) (by omega)).trans i1, hr5, ⟨(hF 4 (by omega) (by omega) (by omega)).trans i4, h4⟩, ⟨(hF 5 (by omega) (by omega) (by omega)).trans i5, h5⟩, (hF 33 (by omega) (by omega) (by omega)).trans i33, hgc, m34, (hF 35 (by omega) (by omega) (by omega)).trans i35, (hF 36 (by omega) (by omega) (by omega)).trans i36, hmt, (hF 37 (by omega) (by omega) (by omega)).trans i37, (hF 38 (by omega) (by omega) (by omega)).trans i38, (hF 39 (by omega) (by omega) (by omega)).trans i39, hwt, h40⟩) (by omega) hP hD hS (lv_sub hl [2, 3, 4, 5, 6] rfl)
    · exact absurd ⟨k, k1, k2⟩ no2
  · rcases hq2 with ⟨k9, j1, j2, j3, m34⟩ | ⟨no2, -, m34⟩
    · exact absurd ⟨k9, j1, j2⟩ no
    · skip
      have h40 : ce3 40 = .inl (cJ, 1, .inr (.inl g)) := (fr3 40 (by omega)).trans ((congrFun hce 40).trans i40)
      refine tail C (off := 677) (by show cells + 1 + 0 ≤ 601024; omega) (by show slots + 6 + 0 ≤ 7293034; omega) hP (m34) (h40) hl dW_law_209 dW_law_210 dW_law_213 dW_law_215 dW_law_220 dW_law_222 dW_law_225 dW_law_226 dW_law_227 dW_law_228 dW_law_230 dW_law_231 dW_law_232 dW_law_237 (by decide) (e5.symm) (fun q9 => absurd (e5.symm.trans q9) (by decide +kernel)) ?_
      refine W.widen (k := cells + 2) (n := slots + 12) (by omega) (by omega) ?_
      exact kk ce3 rl H locs ls (⟨os, n, f, gc, row, o4, o5, gr, mt, cg9, ga, gb, nI 1, wv, tv, g, hT.cg (fun j hj => (hF j (by omega) (by omega) (by omega))), hW, hf, (fr3 0 (by omega)).trans ((congrFun hce 0).trans i0), (hF 1 (by omega) (by omega) (by omega)).trans i1, hr5, ⟨(hF 4 (by omega) (by omega) (by omega)).trans i4, h4⟩, ⟨(hF 5 (by omega) (by omega) (by omega)).trans i5, h5⟩, (hF 33 (by omega) (by omega) (by omega)).trans i33, hgc, m34, (hF 35 (by omega) (by omega) (by omega)).trans i35, (hF 36 (by omega) (by omega) (by omega)).trans i36, hmt, (hF 37 (by omega) (by omega) (by omega)).trans i37, (hF 38 (by omega) (by omega) (by omega)).trans i38, (hF 39 (by omega) (by omega) (by omega)).trans i39, hwt, h40⟩) (by omega) hP hD hS (lv_sub hl [2, 3, 4, 5, 6] rfl)

set_option maxHeartbeats 4000000 in
set_option maxRecDepth 100000 in
theorem q_different (C : LX p l s m c b L xs D cI cO cJ A) {i : Nat} (hi : i + 4 ≤ L) (hL : L ≤ 2048) {rl : Nat} (hI : INV cI cO cJ ad ce rl) (hrl : rl ≤ 1533) (hc : cells + 2 ≤ 601024) (hs : slots + 12 ≤ 7293034) (hP : va_P D CLS (wx 41 ad ce) H) (hD : va_D A (wx 41 ad ce)) (hS : va_S A s.heap H locs) (hl : lv_has ls 7 [(4, .int (nI i)), (3, .ref (ad 40)), (2, .ref (ad 34)), (1, .ref (ad 0)), (0, .ref b)])
    (kk : ∀ (ce1 : Nat → va_E) (rl1 : Nat) (H : Heap) (locs : List Loc) (ls : Array Slot), INV cI cO cJ ad ce1 rl1 → rl1 ≤ rl + 3 → va_P D CLS (wx 41 ad ce1) H → va_D A (wx 41 ad ce1) → va_S A s.heap H locs → lv_has ls 7 [(4, .int (nI i)), (3, .ref (ad 40)), (2, .ref (ad 34)), (1, .ref (ad 0)), (0, .ref b)] → W p l e room_1 s m #[Value.ref b] below meth c H locs (cells + 2) (slots + 12) Q (F0 m 914 ls [])) : W p l e room_1 s m #[Value.ref b] below meth c H locs cells slots Q (F0 m 617 ls []) := by
  obtain ⟨hx, hb, hml, hown, hA9, hX, hbl, hlt, hK, hE, hA, hbA⟩ := id C
  obtain ⟨os, n, f, gc, row, o4, o5, gr, mt, cg9, ga, gb, th, wv, tv, g, hV⟩ := hI
  obtain ⟨hT, hW, hf, i0, i1, hr5, ⟨i4, h4⟩, ⟨i5, h5⟩, i33, hgc, i34, i35, i36, hmt, i37, i38, i39, hwt, i40⟩ := id hV
  have hn := hT.2.2.2
  refine lv_aload_n hx hb dW_law_617 rfl (lv_at hl 3 rfl) ?_
  refine lv_aload_n hx hb dW_law_618 rfl (lv_at hl 4 rfl) ?_
  refine lv_iload hx hb dW_law_619 (lv_at hl 0 rfl) ?_
  refine lv_iconst (v := nI 1) hx hb dW_law_621 (by decide +kernel) ?_
  refine lv_iadd hx hb dW_law_622 ?_
  refine lv_topi (fun z1 e1 => ?_)
  obtain rfl : z1 = nI (i + 1) := by rw [e1]; exact nI_add _ _
  refine va_sld hx hb hX hbl hbA hS (inN) dW_law_623 ?_
  refine lv_topi (fun z2 e2 => ?_)
  obtain rfl : z2 = xs (i + 1) := by rw [e2, clN]
  refine lv_aload_n hx hb dW_law_624 rfl (lv_at hl 4 rfl) ?_
  refine lv_iload hx hb dW_law_625 (lv_at hl 0 rfl) ?_
  refine lv_iconst (v := nI 2) hx hb dW_law_627 (by decide +kernel) ?_
  refine lv_iadd hx hb dW_law_628 ?_
  refine lv_topi (fun z3 e3 => ?_)
  obtain rfl : z3 = nI (i + 2) := by rw [e3]; exact nI_add _ _
  refine va_sld hx hb hX hbl hbA hS (inN) dW_law_629 ?_
  refine lv_topi (fun z4 e4 => ?_)
  obtain rfl : z4 = xs (i + 2) := by rw [e4, clN]
  refine lv_aload_n hx hb dW_law_630 rfl (lv_at hl 1 rfl) ?_
  refine cvi (vx_runSW (As := [.ref (ad 0), .int (xs (i + 1)), .int (xs (i + 2)), .ref (ad 40)]) (rest := []) ⟨hx, hb, hml, hown, hA9⟩ (c_W_different l hlt D cI cO cJ ad ce _ os n hT rl gc i0 f hW hf gr i33 g i40 (xs (i + 1)) (xs (i + 2))) (vx_cwSW 4 hA9 (gSW mlW_89 mtW_different mn_W mkW_different) rfl rfl rfl (by decide +kernel) ⟨Nat.le_of_ble_eq_true rfl, Nat.le_of_ble_eq_true rfl⟩) ⟨PX_bl, PX_mk hK hP hD hE hS hA⟩ rfl rfl hl.1 rfl (lv_room (Nat.le_of_ble_eq_true rfl)) dW_law_631 ⟨by show cells + 1 ≤ 601024; omega, by show slots + 6 ≤ 7293034; omega⟩) hS hD hA (fun r5 ce1 H locs hq1 hP hD hS => ?_)
  have fr1 : ∀ j, j ≠ 40 → j ≠ 0 → j ≠ 33 → ce1 j = ce j := fun j q0 q1 q2 => by
    rcases hq1 with ⟨-, r1, ce2, g1, ⟨fr2, -⟩, fr, -⟩ | ⟨-, hce, -⟩
    · exact (fr j q0).trans (fr2 j q1 q2)
    · rw [hce]
  refine lv_istore (lv' := [(5, .int r5), (4, .int (nI i)), (3, .ref (ad 40)), (2, .ref (ad 34)), (1, .ref (ad 0)), (0, .ref b)]) hx hb dW_law_634 hl (by decide) rfl (fun ls hl => ?_)
  refine lv_aload_n hx hb dW_law_636 rfl (lv_at hl 3 rfl) ?_
  refine lv_aload_n hx hb dW_law_637 rfl (lv_at hl 5 rfl) ?_
  refine lv_iload hx hb dW_law_638 (lv_at hl 1 rfl) ?_
  refine lv_iconst (v := nI 1) hx hb dW_law_640 (by decide +kernel) ?_
  refine lv_iadd hx hb dW_law_641 ?_
  refine lv_topi (fun z5 e5 => ?_)
  obtain rfl : z5 = nI (i + 1) := by rw [e5]; exact nI_add _ _
  refine va_sld hx hb hX hbl hbA hS (inN) dW_law_642 ?_
  refine lv_topi (fun z6 e6 => ?_)
  obtain rfl : z6 = xs (i + 1) := by rw [e6, clN]
  refine lv_aload_n hx hb dW_law_643 rfl (lv_at hl 5 rfl) ?_
  refine lv_iload hx hb dW_law_644 (lv_at hl 1 rfl) ?_
  refine lv_iconst (v := nI 2) hx hb dW_law_646 (by decide +kernel) ?_
  refine lv_iadd hx hb dW_law_647 ?_
  refine lv_topi (fun z7 e7 => ?_)
  obtain rfl : z7 = nI (i + 2) := by rw [e7]; exact nI_add _ _
  refine va_sld hx hb hX hbl hbA hS (inN) dW_law_648 ?_
  refine lv_topi (fun z8 e8 => ?_)
  obtain rfl : z8 = xs (i + 2) := by rw [e8, clN]
  refine cvi (va_runV (As := [.int (xs (i + 1)), .int (xs (i + 2))]) (rest := []) ⟨hx, hb, hml, hown, hA9⟩ (c_M_different l D cI cO cJ 41 ad ce1 _ (by omega) th rl n gc ((fr1 34 (by omega) (by omega) (by omega)).trans i34) mt ((fr1 36 (by omega) (by omega) (by omega)).trans i36) f hmt hf hn cg9 ((fr1 37 (by omega) (by omega) (by omega)).trans i37) ga gb ((fr1 38 (by omega) (by omega) (by omega)).trans i38) ((fr1 39 (by omega) (by omega) (by omega)).trans i39) (xs (i + 1)) (xs (i + 2))) (cwV 2 hA9 (gV mlW_91 miM_different msM_different mn_M mkM_different) rfl rfl rfl (by decide +kernel) ⟨Nat.le_of_ble_eq_true rfl, Nat.le_of_ble_eq_true rfl⟩) ⟨PM_bl, wx_recv hK hP (by omega) (((fr1 34 (by omega) (by omega) (by omega)).trans i34)) rfl, PM_mk hK hP hD⟩ rfl rfl hl.1 rfl (lv_room (Nat.le_of_ble_eq_true rfl)) dW_law_649 ⟨by show cells + 1 + 0 ≤ 601024; omega, by show slots + 6 + 0 ≤ 7293034; omega⟩) hS hD hA (fun r6 ce3 H locs hq2 hP hD hS => ?_)
  refine lv_istore (lv' := [(6, .int r6), (5, .int r5), (4, .int (nI i)), (3, .ref (ad 40)), (2, .ref (ad 34)), (1, .ref (ad 0)), (0, .ref b)]) hx hb dW_law_652 hl (by decide) rfl (fun ls hl => ?_)
  obtain ⟨fr3, ⟨g7, m37⟩, hq2⟩ := hq2
  have hF : ∀ j, j ≠ 0 → j ≠ 33 → j ≠ 34 → j ≠ 37 → j ≠ 38 → j ≠ 39 → j ≠ 40 → ce3 j = ce j := fun j a1 a2 a3 a4 a5 a6 a7 => (fr3 j a3 a4 a5 a6).trans (fr1 j a7 a1 a2)
  rcases hq1 with ⟨e5, r1, ce2, g1, ⟨fr2, u, v, k1, k2, k3, k4, k5, k20, gr1, k33, hDG⟩, fr, k40, hg⟩ | ⟨e5, hce, no⟩
  · rcases hq2 with ⟨no2, -⟩ | ⟨u9, v9, j1, j2, j3, j4, j5, m34, ga1, gb1, m38, m39, hDF⟩
    · exact absurd ⟨u, v, k1, k2, k3, k4⟩ no2
    · skip
      obtain rfl : u = u9 := eqN (k3.symm.trans j3)
      obtain rfl : v = v9 := eqN (k4.symm.trans j4)
      obtain ⟨wv1, tv1, hwt1⟩ := df_pair hDF hDG k1 (by omega)
      have h40 : ce3 40 = .inl (cJ, 1, .inr (.inl g1)) := (fr3 40 (by omega) (by omega) (by omega) (by omega)).trans k40
      refine tail C (off := 232) (by show cells + 1 + 0 ≤ 601024; omega) (by show slots + 6 + 0 ≤ 7293034; omega) hP (m34) (h40) hl dW_law_654 dW_law_655 dW_law_658 dW_law_660 dW_law_665 dW_law_667 dW_law_670 dW_law_671 dW_law_672 dW_law_673 dW_law_675 dW_law_676 dW_law_677 dW_law_682 (by decide) (e5.symm) (fun _ => by rw [hg, k5, j5]) ?_
      refine W.widen (k := cells + 2) (n := slots + 12) (by omega) (by omega) ?_
      exact kk ce3 rl H locs ls (⟨os, n, f, nd f u v 512, row, o4, o5, gr1, mt, g7, ga1, gb1, nI 0, wv1, tv1, g1, hT.cg (fun j hj => (hF j (by omega) (by omega) (by omega) (by omega) (by omega) (by omega) (by omega))), hW, hf, (fr3 0 (by omega) (by omega) (by omega) (by omega)).trans ((fr 0 (by omega)).trans k20), (hF 1 (by omega) (by omega) (by omega) (by omega) (by omega) (by omega) (by omega)).trans i1, hr5, ⟨(hF 4 (by omega) (by omega) (by omega) (by omega) (by omega) (by omega) (by omega)).trans i4, h4⟩, ⟨(hF 5 (by omega) (by omega) (by omega) (by omega) (by omega) (by omega) (by omega)).trans i5, h5⟩, (fr3 33 (by omega) (by omega) (by omega) (by omega)).trans ((fr 33 (by omega)).trans k33), nd_le f u v 512, m34, (hF 35 (by omega) (by omega) (by omega) (by omega) (by omega) (by omega) (by omega)).trans i35, (hF 36 (by omega) (by omega) (by omega) (by omega) (by omega) (by omega) (by omega)).trans i36, hmt, m37, m38, m39, fun i h => (hwt1 i h).2, h40⟩) (by omega) hP hD hS (lv_sub hl [2, 3, 4, 5, 6] rfl)
  · rcases hq2 with ⟨no2, -, m34, m38, m39⟩ | ⟨u9, v9, j1, j2, j3, j4, -⟩
    · skip
      have h40 : ce3 40 = .inl (cJ, 1, .inr (.inl g)) := (fr3 40 (by omega) (by omega) (by omega) (by omega)).trans ((congrFun hce 40).trans i40)
      refine tail C (off := 232) (by show cells + 1 + 0 ≤ 601024; omega) (by show slots + 6 + 0 ≤ 7293034; omega) hP (m34) (h40) hl dW_law_654 dW_law_655 dW_law_658 dW_law_660 dW_law_665 dW_law_667 dW_law_670 dW_law_671 dW_law_672 dW_law_673 dW_law_675 dW_law_676 dW_law_677 dW_law_682 (by decide) (e5.symm) (fun q9 => absurd (e5.symm.trans q9) (by decide +kernel)) ?_
      refine W.widen (k := cells + 2) (n := slots + 12) (by omega) (by omega) ?_
      exact kk ce3 rl H locs ls (⟨os, n, f, gc, row, o4, o5, gr, mt, g7, ga, gb, nI 1, wv, tv, g, hT.cg (fun j hj => (hF j (by omega) (by omega) (by omega) (by omega) (by omega) (by omega) (by omega))), hW, hf, (fr3 0 (by omega) (by omega) (by omega) (by omega)).trans ((congrFun hce 0).trans i0), (hF 1 (by omega) (by omega) (by omega) (by omega) (by omega) (by omega) (by omega)).trans i1, hr5, ⟨(hF 4 (by omega) (by omega) (by omega) (by omega) (by omega) (by omega) (by omega)).trans i4, h4⟩, ⟨(hF 5 (by omega) (by omega) (by omega) (by omega) (by omega) (by omega) (by omega)).trans i5, h5⟩, (fr3 33 (by omega) (by omega) (by omega) (by omega)).trans ((congrFun hce 33).trans i33), hgc, m34, (hF 35 (by omega) (by omega) (by omega) (by omega) (by omega) (by omega) (by omega)).trans i35, (hF 36 (by omega) (by omega) (by omega) (by omega) (by omega) (by omega) (by omega)).trans i36, hmt, m37, m38, m39, hwt, h40⟩) (by omega) hP hD hS (lv_sub hl [2, 3, 4, 5, 6] rfl)
    · exact absurd ⟨u9, v9, j1, j2, j3, j4⟩ no

set_option maxHeartbeats 4000000 in
set_option maxRecDepth 100000 in
theorem q_build (C : LX p l s m c b L xs D cI cO cJ A) {i : Nat} (hi : i + 4 ≤ L) (hL : L ≤ 2048) {rl : Nat} (hI : INV cI cO cJ ad ce rl) (hrl : rl ≤ 1533) (hc : cells + 2 ≤ 601024) (hs : slots + 12 ≤ 7293034) (hP : va_P D CLS (wx 41 ad ce) H) (hD : va_D A (wx 41 ad ce)) (hS : va_S A s.heap H locs) (hl : lv_has ls 7 [(4, .int (nI i)), (3, .ref (ad 40)), (2, .ref (ad 34)), (1, .ref (ad 0)), (0, .ref b)])
    (kk : ∀ (ce1 : Nat → va_E) (rl1 : Nat) (H : Heap) (locs : List Loc) (ls : Array Slot), INV cI cO cJ ad ce1 rl1 → rl1 ≤ rl + 3 → va_P D CLS (wx 41 ad ce1) H → va_D A (wx 41 ad ce1) → va_S A s.heap H locs → lv_has ls 7 [(4, .int (nI i)), (3, .ref (ad 40)), (2, .ref (ad 34)), (1, .ref (ad 0)), (0, .ref b)] → W p l e room_1 s m #[Value.ref b] below meth c H locs (cells + 2) (slots + 12) Q (F0 m 914 ls [])) : W p l e room_1 s m #[Value.ref b] below meth c H locs cells slots Q (F0 m 240 ls []) := by
  obtain ⟨hx, hb, hml, hown, hA9, hX, hbl, hlt, hK, hE, hA, hbA⟩ := id C
  obtain ⟨os, n, f, gc, row, o4, o5, gr, mt, cg9, ga, gb, th, wv, tv, g, hV⟩ := hI
  obtain ⟨hT, hW, hf, i0, i1, hr5, ⟨i4, h4⟩, ⟨i5, h5⟩, i33, hgc, i34, i35, i36, hmt, i37, i38, i39, hwt, i40⟩ := id hV
  have hn := hT.2.2.2
  refine lv_aload_n hx hb dW_law_240 rfl (lv_at hl 3 rfl) ?_
  refine cvi (va_runV (As := []) (rest := []) ⟨hx, hb, hml, hown, hA9⟩ (c_L_build l D cI cO cJ 41 ad ce _ (by omega) os n hT rl gc (by omega) i0 row o4 o5 i1 hr5 i4 h4 i5 h5) (cwV 0 hA9 (gV mlW_69 miL_build msL_build mn_L mkL_build) rfl rfl rfl (by decide +kernel) ⟨Nat.le_of_ble_eq_true rfl, Nat.le_of_ble_eq_true rfl⟩) ⟨PM_bl, wx_recv hK hP (by omega) (i0) rfl, PM_mk hK hP hD⟩ rfl rfl hl.1 rfl (lv_room (Nat.le_of_ble_eq_true rfl)) dW_law_241 ⟨by show cells + 0 ≤ 601024; omega, by show slots + 0 ≤ 7293034; omega⟩) hS hD hA (fun r5 ce1 H locs hq1 hP hD hS => ?_)
  obtain ⟨e5, os1, hT1, hW1, ⟨p4, k4, h41⟩, ⟨p5, k5, h51⟩, fr1⟩ := hq1
  refine lv_aload_n hx hb dW_law_244 rfl (lv_at hl 2 rfl) ?_
  refine cvi (va_runV (As := []) (rest := [.int r5]) ⟨hx, hb, hml, hown, hA9⟩ (c_M_build l D cI cO cJ 41 ad ce1 _ (by omega) th rl n gc ((fr1 34 (by omega)).trans i34) row ((fr1 35 (by omega)).trans i35) mt ((fr1 36 (by omega)).trans i36) (by omega)) (cwV 0 hA9 (gV mlW_72 miM_build msM_build mn_M mkM_build) rfl rfl rfl (by decide +kernel) ⟨Nat.le_of_ble_eq_true rfl, Nat.le_of_ble_eq_true rfl⟩) ⟨PM_bl, wx_recv hK hP (by omega) (((fr1 34 (by omega)).trans i34)) rfl, PM_mk hK hP hD⟩ rfl rfl hl.1 rfl (lv_room (Nat.le_of_ble_eq_true rfl)) dW_law_245 ⟨by show cells + 0 + 0 ≤ 601024; omega, by show slots + 0 + 0 ≤ 7293034; omega⟩) hS hD hA (fun r6 ce3 H locs hq2 hP hD hS => ?_)
  obtain ⟨e6, fr3, m34, mt1, m36, hm1⟩ := hq2
  refine lv_icmp_eq (tgt := 914) hx hb dW_law_248 (by decide) (fun _ => ?_) (fun h => absurd (e5.trans e6.symm) h)
  refine W.widen (k := cells + 2) (n := slots + 12) (by omega) (by omega) ?_
  have hF : ∀ j, j < 2 ∨ j = 3 ∨ 33 ≤ j → j ≠ 34 → j ≠ 36 → ce3 j = ce j := fun j a1 a2 a3 => (fr3 j a2 a3).trans (fr1 j a1)
  exact kk ce3 rl H locs ls ⟨os1, rl, vl row, gc, row, p4, p5, gr, mt1, cg9, ga, gb, nI 0, wv, tv, g, hT1.cg (fun j hj => fr3 j (by omega) (by omega)), hW1, fun i _ => (hr5.v i).1, (hF 0 (by omega) (by omega) (by omega)).trans i0, (hF 1 (by omega) (by omega) (by omega)).trans i1, hr5, ⟨(fr3 4 (by omega) (by omega)).trans k4, h41⟩, ⟨(fr3 5 (by omega) (by omega)).trans k5, h51⟩, (hF 33 (by omega) (by omega) (by omega)).trans i33, hgc, m34, (hF 35 (by omega) (by omega) (by omega)).trans i35, m36, fun i h => (hm1 i h).trans (hr5.v i).2, (hF 37 (by omega) (by omega) (by omega)).trans i37, (hF 38 (by omega) (by omega) (by omega)).trans i38, (hF 39 (by omega) (by omega) (by omega)).trans i39, hwt, (hF 40 (by omega) (by omega) (by omega)).trans i40⟩ (by omega) hP hD hS hl

set_option maxHeartbeats 4000000 in
set_option maxRecDepth 100000 in
theorem q_count (C : LX p l s m c b L xs D cI cO cJ A) {i : Nat} (hi : i + 4 ≤ L) (hL : L ≤ 2048) {rl : Nat} (hI : INV cI cO cJ ad ce rl) (hrl : rl ≤ 1533) (hc : cells + 2 ≤ 601024) (hs : slots + 12 ≤ 7293034) (hP : va_P D CLS (wx 41 ad ce) H) (hD : va_D A (wx 41 ad ce)) (hS : va_S A s.heap H locs) (hl : lv_has ls 7 [(4, .int (nI i)), (3, .ref (ad 40)), (2, .ref (ad 34)), (1, .ref (ad 0)), (0, .ref b)])
    (kk : ∀ (ce1 : Nat → va_E) (rl1 : Nat) (H : Heap) (locs : List Loc) (ls : Array Slot), INV cI cO cJ ad ce1 rl1 → rl1 ≤ rl + 3 → va_P D CLS (wx 41 ad ce1) H → va_D A (wx 41 ad ce1) → va_S A s.heap H locs → lv_has ls 7 [(4, .int (nI i)), (3, .ref (ad 40)), (2, .ref (ad 34)), (1, .ref (ad 0)), (0, .ref b)] → W p l e room_1 s m #[Value.ref b] below meth c H locs (cells + 2) (slots + 12) Q (F0 m 914 ls [])) : W p l e room_1 s m #[Value.ref b] below meth c H locs cells slots Q (F0 m 889 ls []) := by
  obtain ⟨hx, hb, hml, hown, hA9, hX, hbl, hlt, hK, hE, hA, hbA⟩ := id C
  obtain ⟨os, n, f, gc, row, o4, o5, gr, mt, cg9, ga, gb, th, wv, tv, g, hV⟩ := hI
  obtain ⟨hT, hW, hf, i0, i1, hr5, ⟨i4, h4⟩, ⟨i5, h5⟩, i33, hgc, i34, i35, i36, hmt, i37, i38, i39, hwt, i40⟩ := id hV
  have hn := hT.2.2.2
  refine lv_aload_n hx hb dW_law_889 rfl (lv_at hl 3 rfl) ?_
  refine lv_aload_n hx hb dW_law_890 rfl (lv_at hl 4 rfl) ?_
  refine lv_iload hx hb dW_law_891 (lv_at hl 0 rfl) ?_
  refine lv_iconst (v := nI 1) hx hb dW_law_893 (by decide +kernel) ?_
  refine lv_iadd hx hb dW_law_894 ?_
  refine lv_topi (fun z1 e1 => ?_)
  obtain rfl : z1 = nI (i + 1) := by rw [e1]; exact nI_add _ _
  refine va_sld hx hb hX hbl hbA hS (inN) dW_law_895 ?_
  refine lv_topi (fun z2 e2 => ?_)
  obtain rfl : z2 = xs (i + 1) := by rw [e2, clN]
  refine vp_callSi (va_runV (As := [.int (xs (i + 1))]) (rest := []) ⟨hx, hb, hml, hown, hA9⟩ (c_L_count l D cI cO cJ 41 ad ce (by omega) os n hT rl gc i0 (xs (i + 1))) (cwV 1 hA9 (gV mlW_101 miL_count msL_count mn_L mkL_count) rfl rfl rfl (by decide +kernel) ⟨Nat.le_of_ble_eq_true rfl, Nat.le_of_ble_eq_true rfl⟩) ⟨PR_bl, wx_recv hK hP (by omega) i0 rfl, PR_mk hK hP⟩ rfl rfl hl.1 rfl (lv_room (Nat.le_of_ble_eq_true rfl)) dW_law_896 ⟨by show cells + 0 ≤ 601024; omega, by show slots + 0 ≤ 7293034; omega⟩).run (fun r5 e5 => ?_)
  refine lv_aload_n hx hb dW_law_899 rfl (lv_at hl 2 rfl) ?_
  refine lv_aload_n hx hb dW_law_900 rfl (lv_at hl 4 rfl) ?_
  refine lv_iload hx hb dW_law_901 (lv_at hl 0 rfl) ?_
  refine lv_iconst (v := nI 1) hx hb dW_law_903 (by decide +kernel) ?_
  refine lv_iadd hx hb dW_law_904 ?_
  refine lv_topi (fun z3 e3 => ?_)
  obtain rfl : z3 = nI (i + 1) := by rw [e3]; exact nI_add _ _
  refine va_sld hx hb hX hbl hbA hS (inN) dW_law_905 ?_
  refine lv_topi (fun z4 e4 => ?_)
  obtain rfl : z4 = xs (i + 1) := by rw [e4, clN]
  refine cvi (va_runV (As := [.int (xs (i + 1))]) (rest := [.int r5]) ⟨hx, hb, hml, hown, hA9⟩ (c_M_count l D cI cO cJ 41 ad ce _ (by omega) th rl n gc i34 (xs (i + 1))) (cwV 1 hA9 (gV mlW_104 miM_count msM_count mn_M mkM_count) rfl rfl rfl (by decide +kernel) ⟨Nat.le_of_ble_eq_true rfl, Nat.le_of_ble_eq_true rfl⟩) ⟨PM_bl, wx_recv hK hP (by omega) (i34) rfl, PM_mk hK hP hD⟩ rfl rfl hl.1 rfl (lv_room (Nat.le_of_ble_eq_true rfl)) dW_law_906 ⟨by show cells + 0 ≤ 601024; omega, by show slots + 0 ≤ 7293034; omega⟩) hS hD hA (fun r6 ce3 H locs hq2 hP hD hS => ?_)
  obtain ⟨fr3, m34, e6⟩ := hq2
  refine lv_icmp_eq (tgt := 914) hx hb dW_law_909 (by decide) (fun _ => ?_) (fun h => absurd (e5.trans e6.symm) h)
  refine W.widen (k := cells + 2) (n := slots + 12) (by omega) (by omega) ?_
  exact kk ce3 rl H locs ls (hV.q (fun j a1 _ _ => fr3 j a1) m34 ((fr3 37 (by omega)).trans i37) ((fr3 40 (by omega)).trans i40)) (by omega) hP hD hS hl

end
