/-! the law: what holds between two calls -/
def IV (cI cO cJ : ClassId) (ad : Nat → Nat) (ce : Nat → va_E) (rl : Nat) (os : Nat → Nat → Nat) (n : Nat) (f : Nat → Nat) (gc : Nat) (row o4 o5 gr mt cg ga gb : Nat → Int32) (th : Int32) (wv tv : Nat → Nat) (g : Nat → Int64) : Prop :=
  TR cI cO ad ce os n ∧ WM f n os ∧ (∀ i, i < n → f i < 512) ∧ ce 0 = .inr (2, [.ref (ad 1), .ref (ad 2), .ref (ad 33), .int (nI rl), .int (nI gc)]) ∧ ce 1 = .inl (cI, 4000, .inl row) ∧ A5 row ∧ (ce 4 = .inl (cI, 4000, .inl o4) ∧ A5 o4) ∧ (ce 5 = .inl (cI, 4000, .inl o5) ∧ A5 o5) ∧ ce 33 = .inl (cI, 512, .inl gr) ∧ gc ≤ 512 ∧
  ce 34 = .inr (3, [.int (th), .ref (ad 35), .ref (ad 36), .ref (ad 37), .ref (ad 38), .ref (ad 39), .int (nI rl), .int (nI n), .int (nI gc)]) ∧ ce 35 = .inl (cI, 4000, .inl row) ∧ ce 36 = .inl (cI, 4000, .inl mt) ∧ (∀ i, i < n → mt i = nI (f i)) ∧ ce 37 = .inl (cI, 512, .inl cg) ∧ ce 38 = .inl (cI, 512, .inl ga) ∧ ce 39 = .inl (cI, 512, .inl gb) ∧ (∀ i, i < gc → gr i = nI (wv i * 4096 + tv i) ∧ ga i = nI (wv i) ∧ gb i = nI (tv i)) ∧ ce 40 = .inl (cJ, 1, .inr (.inl g))
def INV (cI cO cJ : ClassId) (ad : Nat → Nat) (ce : Nat → va_E) (rl : Nat) : Prop := ∃ (os : Nat → Nat → Nat) (n : Nat) (f : Nat → Nat) (gc : Nat) (row o4 o5 gr mt cg ga gb : Nat → Int32) (th : Int32) (wv tv : Nat → Nat) (g : Nat → Int64), IV cI cO cJ ad ce rl os n f gc row o4 o5 gr mt cg ga gb th wv tv g
/-- a question changes what was thrown, the counts and the answer's place alone -/
theorem IV.q {cI cO cJ : ClassId} {ad : Nat → Nat} {ce ce3 : Nat → va_E} {rl : Nat} {os : Nat → Nat → Nat} {n : Nat} {f : Nat → Nat} {gc : Nat} {row o4 o5 gr mt cg ga gb cg3 : Nat → Int32} {th th3 : Int32} {wv tv : Nat → Nat} {g g3 : Nat → Int64} (h : IV cI cO cJ ad ce rl os n f gc row o4 o5 gr mt cg ga gb th wv tv g)
    (fr : ∀ j, j ≠ 34 → j ≠ 37 → j ≠ 40 → ce3 j = ce j) (h34 : ce3 34 = .inr (3, [.int (th3), .ref (ad 35), .ref (ad 36), .ref (ad 37), .ref (ad 38), .ref (ad 39), .int (nI rl), .int (nI n), .int (nI gc)])) (h37 : ce3 37 = .inl (cI, 512, .inl cg3)) (h40 : ce3 40 = .inl (cJ, 1, .inr (.inl g3))) : INV cI cO cJ ad ce3 rl := by
  obtain ⟨hT, hW, hf, i0, i1, hr5, ⟨i4, h4⟩, ⟨i5, h5⟩, i33, hgc, i34, i35, i36, hmt, i37, i38, i39, hwt, i40⟩ := h
  exact ⟨os, n, f, gc, row, o4, o5, gr, mt, cg3, ga, gb, th3, wv, tv, g3, hT.cg (fun j hj => fr j (by omega) (by omega) (by omega)), hW, hf, (fr 0 (by omega) (by omega) (by omega)).trans i0, (fr 1 (by omega) (by omega) (by omega)).trans i1, hr5, ⟨(fr 4 (by omega) (by omega) (by omega)).trans i4, h4⟩, ⟨(fr 5 (by omega) (by omega) (by omega)).trans i5, h5⟩, (fr 33 (by omega) (by omega) (by omega)).trans i33, hgc, h34, (fr 35 (by omega) (by omega) (by omega)).trans i35, (fr 36 (by omega) (by omega) (by omega)).trans i36, hmt, h37, (fr 38 (by omega) (by omega) (by omega)).trans i38, (fr 39 (by omega) (by omega) (by omega)).trans i39, hwt, h40⟩
/-- what holds of the law's run all the time -/
def LX (p : Program) (l : Launch) (s : State) (m : MethodId) (c : Code) (b L : Nat) (xs : Nat → Int32) (D : va_G) (cI cO cJ : ClassId) (A : Nat → Prop) : Prop :=
  p.tables.exec = Jvm.exec ∧ c.code = code ∧ c.maxLocals = 7 ∧ s.vm.findClass RW = some m.cls ∧ (∀ w ∈ WA, w.before #[Value.ref b] s = true) ∧ va_X b L xs s s.heap ∧ b < s.heap.size ∧ l.stackTraces = false ∧ va_K D CLS (TY cI cO cJ) s ∧ EV A s s.heap ∧ (∀ q, s.heap.size ≤ q → A q) ∧ ¬ A b
theorem lcmp0 (x : Int64) : lg_cmp x x = 0 := by
  unfold lg_cmp
  rw [if_neg (show ¬ x > x from fun h => absurd h (by simp)), if_pos rfl]
section
variable {p : Program} {l : Launch} {e : Env} {s : State} {m : MethodId} {below : List Frame} {meth : Method} {c : Code} {H : Heap} {locs : List Loc} {cells slots : Nat} {Q : State → Prop} {D : va_G} {cI cO cJ : ClassId} {ad : Nat → Nat} {ce : Nat → va_E} {A : Nat → Prop} {ls : Array Slot} {b L : Nat} {xs : Nat → Int32}
set_option maxHeartbeats 4000000 in
/-- both have answered: what was thrown is asked, and compared; then the answers -/
theorem tail (C : LX p l s m c b L xs D cI cO cJ A) {pc i : Nat} {r5 r6 th : Int32} {rs bu tl : Nat} {g : Nat → Int64} {off : Int} (hc : cells ≤ 601024) (hs : slots ≤ 7293034) (hP : va_P D CLS (wx 41 ad ce) H)
    (h34 : ce 34 = .inr (3, [.int (th), .ref (ad 35), .ref (ad 36), .ref (ad 37), .ref (ad 38), .ref (ad 39), .int (nI rs), .int (nI bu), .int (nI tl)])) (h40 : ce 40 = .inl (cJ, 1, .inr (.inl g)))
    (hl : lv_has ls 7 [(6, .int r6), (5, .int r5), (4, .int (nI i)), (3, .ref (ad 40)), (2, .ref (ad 34)), (1, .ref (ad 0)), (0, .ref b)])
    (d0 : decode bW_law pc = .ok (.aload_n 2, 1)) (d1 : decode bW_law (pc + 1) = .ok (.invokevirtual 61, 3)) (d4 : decode bW_law (pc + 4) = .ok (.iload 5, 2)) (d6 : decode bW_law (pc + 6) = .ok (.if_icmp .eq 5, 3)) (d11 : decode bW_law (pc + 11) = .ok (.iload 5, 2)) (d13 : decode bW_law (pc + 13) = .ok (.ifCond .ne 15, 3)) (d16 : decode bW_law (pc + 16) = .ok (.aload_n 3, 1)) (d17 : decode bW_law (pc + 17) = .ok (.iconst 0, 1)) (d18 : decode bW_law (pc + 18) = .ok (.laload, 1)) (d19 : decode bW_law (pc + 19) = .ok (.iload 6, 2)) (d21 : decode bW_law (pc + 21) = .ok (.i2l, 1)) (d22 : decode bW_law (pc + 22) = .ok (.lcmp, 1)) (d23 : decode bW_law (pc + 23) = .ok (.ifCond .eq 5, 3)) (d28 : decode bW_law (pc + 28) = .ok (.goto off, 3)) (hg : ((pc + 28 : Nat) : Int) + off = ((914 : Nat) : Int))
    (h1 : th = r5) (h2 : r5 = nI 0 → g 0 = r6.toInt64) (kk : W p l e room_1 s m #[Value.ref b] below meth c H locs cells slots Q (F0 m 914 ls [])) : W p l e room_1 s m #[Value.ref b] below meth c H locs cells slots Q (F0 m pc ls []) := by
  obtain ⟨hx, hb, hml, hown, hA9, hX, hbl, hlt, hK, hE, hA, hbA⟩ := id C
  refine lv_aload_n hx hb d0 rfl (lv_at hl 4 rfl) ?_
  refine vp_callSi (va_runV (As := []) (rest := []) ⟨hx, hb, hml, hown, hA9⟩ (c_M_thrown l D cI cO cJ 41 ad ce (by omega) th rs bu tl h34) (cwV 0 hA9 (gV mlW_61 miM_thrown msM_thrown mn_M mkM_thrown) rfl rfl rfl (by decide +kernel) ⟨Nat.le_of_ble_eq_true rfl, Nat.le_of_ble_eq_true rfl⟩) ⟨PR_bl, wx_recv hK hP (by omega) h34 rfl, PR_mk hK hP⟩ rfl rfl hl.1 rfl (lv_room (Nat.le_of_ble_eq_true rfl)) d1 ⟨hc, hs⟩).run (fun r hr => ?_)
  obtain rfl : r = th := hr
  refine lv_iload hx hb d4 (lv_at hl 1 rfl) ?_
  refine lv_icmp_eq (tgt := pc + 11) hx hb d6 (by omega) (fun _ => ?_) (fun h => absurd h1 h)
  refine lv_iload hx hb d11 (lv_at hl 1 rfl) ?_
  refine lv_if_ne (tgt := pc + 28) hx hb d13 (by omega) (fun _ => lv_goto (tgt := 914) hx hb d28 hg kk) (fun h0 => ?_)
  refine lv_aload_n hx hb d16 rfl (lv_at hl 3 rfl) ?_
  refine lv_iconst (v := nI 0) hx hb d17 (by decide +kernel) ?_
  refine va_lald hx hb hK hP 40 2 (wx_at (by omega) h40) rfl (inN) d18 ?_
  refine lv_iload hx hb d19 (lv_at hl 0 rfl) ?_
  refine lv_i2l (v := r6.toInt64) hx hb d21 rfl ?_
  refine W.lcmp hx hb d22 ?_
  refine lv_if_eq (tgt := pc + 28) hx hb d23 (by omega) (fun _ => lv_goto (tgt := 914) hx hb d28 hg kk) (fun h => absurd ?_ h)
  rw [clN (a := 0), h2 (h0.trans nI_0.symm)]
  exact lcmp0 _
end
