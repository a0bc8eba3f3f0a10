/-! THE CLAIM OUT OF ONE WALK OF THE LAW'S BODY. Your part is whole_start (and what it stands on); all else here is the same for every law, but numbers. -/
def R_law : String := "LevelTreeLaw"
def lw_P (b : Addr) (xs : List Int32) (args : Array Value) (s : State) : Prop := args = #[.ref b] ∧ s.IntsAt b xs ∧ xs.length ≤ 2048 ∧ (Jvm.Cond.and given_1 narrow_1).before args s = true
def lw_Q (_ : Array Value) (s : State) (o : Outcome) (t : State) : Prop := o = .returned (some (.int 1)) ∧ Framed s o t [] 601024 7293034
def lw_Z (below : List Frame) (a : Array Value) (s : State) : State → Prop := fun t => ∃ o, t.status = .running ∧ Ended t below o ∧ lw_Q a s o t
/-- the law's own end, with 1 on the stack, nothing written that was there before, its room as the claim has it -/
theorem lw_ret {p : Program} {l : Launch} {e : Env} {s : State} {m : MethodId} {below : List Frame} {meth : Method} {c : Code} {b : Nat} (hx : p.tables.exec = Jvm.exec) (hb : c.code = code) (hr : meth.sig.returnType = ret) (hlocks : meth.locks = false) {pc : Nat} {H : Heap} {ls : Array Slot} (hdg : decode code pc = .ok (.ireturn, 1)) : W p l e room_1 s m #[Value.ref b] below meth c H [] 601024 7293034 (lw_Z below #[Value.ref b] s) (F0 m pc ls [.int 1]) := by
  intro T hT X
  obtain ⟨fs, hret, hrun, hended, hW, hframe⟩ := X.leave (v := some (.int 1)) (hlocks := hlocks) (fun h => by rw [hr] at h; cases h)
  have hmeth' : T.vm.method? m = some meth := X.method'
  refine ⟨T.setFrames fs, ?_, .returned (some (.int 1)), hrun, hended, rfl, ⟨_, rfl⟩, hW, hframe⟩
  jvm_step X.here [X.here.top, hx, hb, hdg, hmeth', hr, ret, narrow_b1]
  (try refine ⟨rfl, ?_⟩); (try refine ⟨rfl, ?_⟩)
  first | (intro acts; rw [hret _ acts rfl rfl rfl]) | rw [hret _ _ rfl rfl rfl]
  exact Steps.refl _
/-- what holds at the law's entry: the machine, the code, the tables' words (any of lw_tbl by 'hts w (by decide +kernel)'), the script of L ints xs at the cell b, what the Statement gives of the start (any of its parts by flat_of_before) -/
def lw_At (p : Program) (s : State) (m : MethodId) (meth : Method) (c : Code) (b L : Nat) (xs : Nat → Int32) : Prop :=
  p.tables.exec = Jvm.exec ∧ c.code = code ∧ meth.sig.returnType = ret ∧ c.maxLocals = 7 ∧ s.vm.findClass R_law = some m.cls ∧ (∀ w ∈ lw_tbl, w.before #[Value.ref b] s = true) ∧ va_X b L xs s s.heap ∧ b < s.heap.size ∧ meth.locks = false ∧ (Jvm.Cond.and given_1 narrow_1).before #[Value.ref b] s = true

section
variable {p : Program} {l : Launch} {e : Env} {s : State} {m : MethodId} {below : List Frame} {meth : Method} {c : Code} {D : va_G} {cI cO cJ : ClassId} {ad : Nat → Nat} {b L : Nat} {xs : Nat → Int32}
set_option maxHeartbeats 4000000 in
theorem law_loop (C : LX p l s m c b L xs D cI cO cJ (fun q => s.heap.size ≤ q)) (hr : meth.sig.returnType = ret) (hlocks : meth.locks = false) (hL : L ≤ 2048) : ∀ (k i rl cells slots : Nat) (ce : Nat → va_E) (H : Heap) (locs : List Loc) (ls : Array Slot), 2048 - i < k → i ≤ 2048 → INV cI cO cJ ad ce rl → 4 * rl ≤ 3 * i → cells ≤ 41 + i → slots ≤ 24380 + 3 * i → va_P D CLS (wx 41 ad ce) H → va_D (fun q => s.heap.size ≤ q) (wx 41 ad ce) → va_S (fun q => s.heap.size ≤ q) s.heap H locs → lv_has ls 7 [(4, .int (nI i)), (3, .ref (ad 40)), (2, .ref (ad 34)), (1, .ref (ad 0)), (0, .ref b)] →
    W p l e room_1 s m #[Value.ref b] below meth c H locs cells slots (lw_Z below #[Value.ref b] s) (F0 m 23 ls []) := by
  intro k
  induction k with
  | zero => intro i rl cells slots ce H locs ls hk; omega
  | succ k ih =>
    intro i rl cells slots ce H locs ls hk hi hI hrl hc hs hP hD hS hl
    obtain ⟨hx, hb, hml, hown, hA9, hX, hbl, hlt, hK, hE, hA, hbA⟩ := id C
    refine lv_iload hx hb dW_law_23 (lv_at hl 0 rfl) ?_
    refine lv_aload_n hx hb dW_law_25 rfl (lv_at hl 4 rfl) ?_
    refine va_slen hx hb hX hbl hbA hS dW_law_26 ?_
    refine lv_iconst (v := nI 4) hx hb dW_law_27 (by decide +kernel) ?_
    refine lv_isub hx hb dW_law_28 ?_
    refine lv_icmp_gt (tgt := 920) hx hb dW_law_29 (by decide) (fun _ => ?_) (fun c29 => ?_)
    · refine va_forget (fun q hq => hS.2.2 q hq) ?_
      refine W.widen (k := 601024) (n := 7293034) (by omega) (by omega) ?_
      refine lv_iconst (v := 1) hx hb dW_law_920 (by decide +kernel) ?_
      exact lw_ret hx hb hr hlocks dW_law_921
    · have hi4 : i + 4 ≤ L := by
        have h9 : ¬ nI L - nI 4 < nI i := c29
        rw [Int32.lt_iff_toInt_lt, pk_sub_toInt (by omega) (by omega), nI_toInt (by omega)] at h9
        omega
      have next : ∀ (ce1 : Nat → va_E) (rl1 : Nat) (H : Heap) (locs : List Loc) (ls : Array Slot), INV cI cO cJ ad ce1 rl1 → rl1 ≤ rl + 3 → va_P D CLS (wx 41 ad ce1) H → va_D (fun q => s.heap.size ≤ q) (wx 41 ad ce1) → va_S (fun q => s.heap.size ≤ q) s.heap H locs → lv_has ls 7 [(4, .int (nI i)), (3, .ref (ad 40)), (2, .ref (ad 34)), (1, .ref (ad 0)), (0, .ref b)] → W p l e room_1 s m #[Value.ref b] below meth c H locs (cells + 2) (slots + 12) (lw_Z below #[Value.ref b] s) (F0 m 914 ls []) := by
        intro ce1 rl1 H locs ls hI1 hr1 hP1 hD1 hS1 hl1
        refine lv_iinc (v := nI (i + 4)) (lv' := [(4, .int (nI (i + 4))), (3, .ref (ad 40)), (2, .ref (ad 34)), (1, .ref (ad 0)), (0, .ref b)]) hx hb dW_law_914 hl1 (k := 0) rfl (by rw [show Int32.ofInt 4 = nI 4 by decide +kernel]; exact nI_add _ _) (by decide) rfl (fun ls hl => ?_)
        refine lv_goto (tgt := 23) hx hb dW_law_917 (by decide) ?_
        exact ih (i + 4) rl1 (cells + 2) (slots + 12) ce1 H locs ls (by omega) (by omega) hI1 (by omega) (by omega) (by omega) hP1 hD1 hS1 hl
      refine lv_aload_n hx hb dW_law_32 rfl (lv_at hl 4 rfl) ?_
      refine lv_iload hx hb dW_law_33 (lv_at hl 0 rfl) ?_
      refine va_sld hx hb hX hbl hbA hS (inN) dW_law_35 ?_
      refine lv_bipush (v := nI 15) hx hb dW_law_36 (by decide +kernel) ?_
      refine lv_iand hx hb dW_law_38 ?_
      obtain ⟨t, ht, et⟩ := pk_andE (xs (nI i).toNatClampNeg) (m := nI 15) 4 (by decide +kernel)
      refine lv_topi (fun z ez => ?_)
      obtain rfl : z = nI t := by rw [ez]; exact et
      have ht : t < 16 := ht
      rcases (show t = 0 ∨ t = 1 ∨ t = 2 ∨ t = 3 ∨ t = 4 ∨ t = 5 ∨ t = 6 ∨ t = 7 ∨ t = 8 ∨ t = 9 ∨ t = 10 ∨ t = 11 ∨ t = 12 ∨ t = 13 ∨ t = 14 ∨ t = 15 by omega) with rfl | rfl | rfl | rfl | rfl | rfl | rfl | rfl | rfl | rfl | rfl | rfl | rfl | rfl | rfl | rfl
      · exact lv_tableIn (off := 65) (tgt := 104) hx hb dW_law_39 (by decide +kernel) (by decide +kernel) (by decide +kernel) (by decide) (q_add C hi4 hL hI (by omega) (by omega) (by omega) hP hD hS hl next)
      · exact lv_tableIn (off := 145) (tgt := 184) hx hb dW_law_39 (by decide +kernel) (by decide +kernel) (by decide +kernel) (by decide) (q_cut C hi4 hL hI (by omega) (by omega) (by omega) hP hD hS hl next)
      · exact lv_tableIn (off := 201) (tgt := 240) hx hb dW_law_39 (by decide +kernel) (by decide +kernel) (by decide +kernel) (by decide) (q_build C hi4 hL hI (by omega) (by omega) (by omega) hP hD hS hl next)
      · exact lv_tableIn (off := 214) (tgt := 253) hx hb dW_law_39 (by decide +kernel) (by decide +kernel) (by decide +kernel) (by decide) (q_at C hi4 hL hI (by omega) (by omega) (by omega) hP hD hS hl next)
      · exact lv_tableIn (off := 270) (tgt := 309) hx hb dW_law_39 (by decide +kernel) (by decide +kernel) (by decide +kernel) (by decide) (q_often C hi4 hL hI (by omega) (by omega) (by omega) hP hD hS hl next)
      · exact lv_tableIn (off := 350) (tgt := 389) hx hb dW_law_39 (by decide +kernel) (by decide +kernel) (by decide +kernel) (by decide) (q_place C hi4 hL hI (by omega) (by omega) (by omega) hP hD hS hl next)
      · exact lv_tableIn (off := 418) (tgt := 457) hx hb dW_law_39 (by decide +kernel) (by decide +kernel) (by decide +kernel) (by decide) (q_least C hi4 hL hI (by omega) (by omega) (by omega) hP hD hS hl next)
      · exact lv_tableIn (off := 498) (tgt := 537) hx hb dW_law_39 (by decide +kernel) (by decide +kernel) (by decide +kernel) (by decide) (q_below C hi4 hL hI (by omega) (by omega) (by omega) hP hD hS hl next)
      · exact lv_tableIn (off := 578) (tgt := 617) hx hb dW_law_39 (by decide +kernel) (by decide +kernel) (by decide +kernel) (by decide) (q_different C hi4 hL hI (by omega) (by omega) (by omega) hP hD hS hl next)
      · exact lv_tableIn (off := 646) (tgt := 685) hx hb dW_law_39 (by decide +kernel) (by decide +kernel) (by decide +kernel) (by decide) (q_number C hi4 hL hI (by omega) (by omega) (by omega) hP hD hS hl next)
      · exact lv_tableIn (off := 702) (tgt := 741) hx hb dW_law_39 (by decide +kernel) (by decide +kernel) (by decide +kernel) (by decide) (q_before C hi4 hL hI (by omega) (by omega) (by omega) hP hD hS hl next)
      · exact lv_tableIn (off := 782) (tgt := 821) hx hb dW_law_39 (by decide +kernel) (by decide +kernel) (by decide +kernel) (by decide) (q_most C hi4 hL hI (by omega) (by omega) (by omega) hP hD hS hl next)
      · exact lv_tableIn (off := 850) (tgt := 889) hx hb dW_law_39 (by decide +kernel) (by decide +kernel) (by decide +kernel) (by decide) (q_count C hi4 hL hI (by omega) (by omega) (by omega) hP hD hS hl next)
      · exact lv_tableOut (tgt := 914) hx hb dW_law_39 (Or.inr (by decide +kernel)) (by decide) (W.widen (k := cells + 2) (n := slots + 12) (by omega) (by omega) (next ce rl H locs ls hI (by omega) hP hD hS hl))
      · exact lv_tableOut (tgt := 914) hx hb dW_law_39 (Or.inr (by decide +kernel)) (by decide) (W.widen (k := cells + 2) (n := slots + 12) (by omega) (by omega) (next ce rl H locs ls hI (by omega) hP hD hS hl))
      · exact lv_tableOut (tgt := 914) hx hb dW_law_39 (Or.inr (by decide +kernel)) (by decide) (W.widen (k := cells + 2) (n := slots + 12) (by omega) (by omega) (next ce rl H locs ls hI (by omega) hP hD hS hl))
end

/-! the start -/
theorem tz_lv {cI : ClassId} {ad : Nat → Nat} {ce : Nat → va_E} {k : Nat} {bb : Nat → Bool} (h : LZ cI ad ce k) (hz : ∀ j, bb j = false) : LV cI ad ce k bb 0 := by
  obtain ⟨h1, h2, h3⟩ := h
  refine ⟨fun _ => 0, fun _ => 0, ?_, h2, h3, fun q i _ _ => ?_, fun q _ => ?_, by omega⟩
  · rw [Nat.zero_sub]; exact h1
  · rw [b_0, hz]
  · rw [cn_none (fun i _ => hz i)]; exact nI_0.symm
theorem tz_tr {cI cO : ClassId} {ad : Nat → Nat} {ce : Nat → va_E} (os : Nat → Nat → Nat) (h : TZ cI cO ad ce) : TR cI cO ad ce os 0 := by
  obtain ⟨h1, ⟨lv, h2, h3⟩, h4, h5, h6⟩ := h
  exact ⟨h1, ⟨lv, h2, h3⟩, fun d hd => tz_lv (h4 d hd) (fun j => by unfold bs; rw [decide_eq_false (Nat.not_lt_zero j), Bool.false_and]), by omega⟩
theorem wm0 (f : Nat → Nat) (os : Nat → Nat → Nat) : WM f 0 os := ⟨fun i h => absurd h (Nat.not_lt_zero i), fun d _ j h => absurd h (Nat.not_lt_zero j)⟩
theorem str_of {args : Array Value} {s : State} {k : Nat} {tx : String} (h1 : (Cond.stringRef RL k tx).before args s = true) (h2 : (Cond.exactly (.string RL k) "java/lang/String").before args s = true) : ∃ a, vk_R RL k tx a s := by
  obtain ⟨a, c, cA, kA, q1, -⟩ := Cond.exactly_spec (args := args) (first := s) (o := none) (s := s) (idx := []) (t := .string RL k) (cls := "java/lang/String") h2
  exact ⟨a, vk_R.of h1 q1⟩
theorem ev_start {b : Nat} {s : State} (hts : ∀ w ∈ lw_tbl, w.before #[Value.ref b] s = true) (hgv : (Jvm.Cond.and given_1 narrow_1).before #[Value.ref b] s = true) : EV (fun q => s.heap.size ≤ q) s s.heap := by
  have hs := flat_of_before _ hgv
  have no : ∀ a : Nat, a < s.heap.size → ¬ (fun q => s.heap.size ≤ q) a := fun a h q => absurd h (Nat.not_lt.mpr q)
  exact ⟨vx_Zqof (hts (.laysStatic Bundle.tN "UNASSIGNED_STACK" Bundle.steD) (by decide +kernel)) (hts (.initialized Bundle.tN) (by decide +kernel)) (hs (.isRef (.static Bundle.tN "UNASSIGNED_STACK" Bundle.steD)) (by decide +kernel)) no,
    vx_Zqof (hts (.laysStatic Bundle.tN "SUPPRESSED_SENTINEL" Bundle.listD) (by decide +kernel)) (hts (.initialized Bundle.tN) (by decide +kernel)) (hs (.isRef (.static Bundle.tN "SUPPRESSED_SENTINEL" Bundle.listD)) (by decide +kernel)) no,
    str_of (hts (.stringRef RL 39 "not a length within the row") (by decide +kernel)) (hs (.exactly (.string RL 39) "java/lang/String") (by decide +kernel)),
    str_of (hts (.stringRef RL 52 "no such place") (by decide +kernel)) (hs (.exactly (.string RL 52) "java/lang/String") (by decide +kernel)),
    str_of (hts (.stringRef RL 92 "not a number of the range") (by decide +kernel)) (hs (.exactly (.string RL 92) "java/lang/String") (by decide +kernel)),
    str_of (hts (.stringRef RL 94 "not a part of the tree") (by decide +kernel)) (hs (.exactly (.string RL 94) "java/lang/String") (by decide +kernel)),
    str_of (hts (.stringRef RL 70 "it does not stand there so often") (by decide +kernel)) (hs (.exactly (.string RL 70) "java/lang/String") (by decide +kernel)),
    str_of (hts (.stringRef RL 76 "the part has not so many") (by decide +kernel)) (hs (.exactly (.string RL 76) "java/lang/String") (by decide +kernel)),
    str_of (hts (.stringRef RL 90 "not so many different numbers") (by decide +kernel)) (hs (.exactly (.string RL 90) "java/lang/String") (by decide +kernel)),
    va_Nw.of rfl (hts (.castable eI eI) (by decide +kernel)), va_Nw.of rfl (hts (.castable eN eN) (by decide +kernel)), va_Nc.of (hs (.not (.castable eN eI)) (by decide +kernel)),
    va_Nw.of rfl (hts (.declares (Bundle.initS "java/lang/RuntimeException")) (by decide +kernel)), va_Nw.of rfl (hts (.declares (Bundle.initS "java/lang/Exception")) (by decide +kernel)), va_Nw.of rfl (hts (.declares (Bundle.initS Bundle.tN)) (by decide +kernel))⟩
theorem k_start {b : Nat} {s : State} (hA9 : ∀ w ∈ WA, w.before #[Value.ref b] s = true) (hO : va_AO RV s) : ∃ (D : va_G) (cI cO cJ : ClassId), va_K D CLS (TY cI cO cJ) s := by
  obtain ⟨c0, iS0, hKn0⟩ := u_known (C := RV) (T := TV) (N := 4) (n := 4) hA9 inV (hA9 _ mo_V)
  obtain ⟨c1, iS1, hKn1⟩ := u_known (C := RT) (T := TT) (N := 4) (n := 4) hA9 inT (hA9 _ mo_T)
  obtain ⟨c2, iS2, hKn2⟩ := u_known (C := RL) (T := TL) (N := 5) (n := 5) hA9 inL (hA9 _ mo_L)
  obtain ⟨c3, iS3, hKn3⟩ := u_known (C := RM) (T := TM) (N := 9) (n := 9) hA9 inM (hA9 _ mo_M)
  obtain ⟨cI, kI, compI, f1, f2, f3⟩ := Cond.arrayClass_spec (hA9 _ ma_int)
  obtain ⟨cJ, kJ, compJ, e1, e2, e3⟩ := Cond.arrayClass_spec (hA9 _ ma_long)
  obtain ⟨comp, cO, kO, g1, g2, g3, g4, g5⟩ := Cond.arrayOver_spec hO
  refine ⟨(fun k => if k = 0 then c0 else if k = 1 then c1 else if k = 2 then c2 else c3, fun k => if k = 0 then iS0 else if k = 1 then iS1 else if k = 2 then iS2 else iS3), cI, cO, cJ, ?_, ?_⟩
  · intro k q hq
    match k, hq with
    | 0, hq => cases hq; exact hKn0
    | 1, hq => cases hq; exact hKn1
    | 2, hq => cases hq; exact hKn2
    | 3, hq => cases hq; exact hKn3
    | k + 4, hq => simp [CLS] at hq
  · intro k q hq
    match k, hq with
    | 0, hq => cases hq; exact ⟨fun n z => ⟨fun k h => (by cases h), kI, f2, compI, f3⟩, f1⟩
    | 1, hq => cases hq; exact ⟨fun n z => ⟨fun k h => (by cases h), kO, g3, comp, g4⟩, kO, comp, g3, g4, g1, g5⟩
    | 2, hq => cases hq; exact ⟨fun n z => ⟨fun k h => (by cases h), kJ, e2, compJ, e3⟩, e1⟩
    | k + 3, hq => simp at hq

set_option maxHeartbeats 4000000 in
/-- from the entry, for every script of at most 2048 ints, the law comes to its end with true -/
theorem whole_start {p : Program} {e : Env} {s : State} {m : MethodId} {below : List Frame} {meth : Method} {c : Code} (l : Launch) (hlt : l.stackTraces = false) {b L : Nat} {xs : Nat → Int32} (hL : L ≤ 2048) (C0 : lw_At p s m meth c b L xs) : W p l e room_1 s m #[Value.ref b] below meth c s.heap [] 0 0 (lw_Z below #[Value.ref b] s) (entryFrame m ([Value.ref b] : List Value).toArray 7) := by
  obtain ⟨hx, hb, hr, hml, hown0, hts, hX, hbl, hlocks, hgv⟩ := id C0
  have hown : s.vm.findClass RW = some m.cls := hown0
  have hA9 : ∀ w ∈ WA, w.before #[Value.ref b] s = true := fun w h => hts w (List.mem_filter.mp h).1
  have hO : va_AO RV s := va_AO.of (hts (.arrayOver (.object RV)) (by decide +kernel))
  obtain ⟨D, cI, cO, cJ, hK⟩ := k_start hA9 hO
  have hE := ev_start hts hgv
  have hA : ∀ q : Nat, s.heap.size ≤ q → (fun q : Nat => s.heap.size ≤ q) q := fun _ h => h
  have hbA : ¬ (fun q : Nat => s.heap.size ≤ q) b := Nat.not_le.mpr hbl
  have C : LX p l s m c b L xs D cI cO cJ (fun q => s.heap.size ≤ q) := ⟨hx, hb, hml, hown, hA9, hX, hbl, hlt, hK, hE, hA, hbA⟩
  obtain ⟨ad, had⟩ : ∃ z9 : Nat → Nat, z9 = fun _ => 0 := ⟨_, rfl⟩
  obtain ⟨ce, hce⟩ : ∃ z9 : Nat → va_E, z9 = fun _ => .inr (0, []) := ⟨_, rfl⟩
  have hS : va_S (fun q : Nat => s.heap.size ≤ q) s.heap s.heap [] := va_S.rf
  have hP : va_P D CLS (wx 0 ad ce) s.heap := fun k q h => by simp [wx] at h
  have hD : va_D (fun q : Nat => s.heap.size ≤ q) (wx 0 ad ce) := ⟨fun i j p q h => by simp [wx] at h, fun k q h => by simp [wx] at h⟩
  clear had hce
  have hl := lv_entry ([.ref b]) (n := 7) (Nat.le_of_ble_eq_true rfl)
  rw [lg_entry_eq]
  generalize (lg_sl ([.ref b]) ++ List.replicate (7 - (lg_sl ([.ref b])).length) Slot.unset).toArray = ls at hl ⊢
  have hl : lv_has ls 7 [(0, .ref b)] := hl
  have fa0 : ∀ j, j < 0 → ad j = ad j := fun j h => absurd h (Nat.not_lt_zero j)
  have fc0 : ∀ j, j < 0 → ce j = ce j := fun j h => absurd h (Nat.not_lt_zero j)
  refine va_new (D := D) (ci := 2) (C := RL) (T := TL) (N := 5) (fs := [.null, .null, .null, .int 0, .int 0]) hx hb hA9 inL tyL tyL_ok hown (hA9 _ mcW_8) (hA9 _ mo_L) (hA9 _ mn_L) hK hP hD hS hA rfl (by decide +kernel) (Nat.le_of_ble_eq_true rfl) (Nat.le_of_ble_eq_true rfl) dW_law_0 (fun q H hP hD hS => ?_)
  rw [wx_push] at hP hD
  obtain ⟨ad1, hd1⟩ : ∃ z9, z9 = va_up ad 0 q := ⟨_, rfl⟩
  obtain ⟨ce1, hc1⟩ : ∃ z9, z9 = va_up ce 0 (.inr (2, [.null, .null, .null, .int 0, .int 0])) := ⟨_, rfl⟩
  rw [← hd1, ← hc1] at hP hD
  have eq1 : q = ad1 0 := by rw [hd1, va_up_self]
  have ed1 : ∀ j, j < 0 → ad j = ad1 j := fun j h => by rw [hd1, va_up_ne _ _ (by omega)]
  have ec1 : ∀ j, j < 0 → ce1 j = ce j := fun j h => by rw [hc1, va_up_ne _ _ (by omega)]
  have fa1 : ∀ j, j < 0 → ad1 j = ad j := fun j h => (ed1 j (by omega)).symm.trans (fa0 j h)
  have fc1 : ∀ j, j < 0 → ce1 j = ce j := fun j h => (ec1 j (by omega)).trans (fc0 j h)
  have qn1 : ce1 0 = .inr (2, [.null, .null, .null, .int 0, .int 0]) := by rw [hc1, va_up_self]
  skip
  refine W.eq (g2 := F0 m 3 ls [.ref (ad1 0)]) (by rw [eq1]) ?_
  clear hd1 hc1
  refine lv_dup hx hb dW_law_3 rfl ?_
  refine cg (va_runI (As := []) (rest := [.ref (ad1 0)]) ⟨hx, hb, hml, hown, hA9⟩ (c_L_init l D cI cO cJ ad1 ce1 _ qn1) (cwI 0 hA9 (gI mkL_init) rfl rfl rfl (hA9 _ mn_L) (hA9 _ mlW_51) (hA9 _ miL_init) rfl (by decide +kernel) ⟨Nat.le_of_ble_eq_true rfl, Nat.le_of_ble_eq_true rfl⟩) ⟨PN_bl, PN_mk hK hP hD hO⟩ rfl rfl hl.1 rfl (lv_room (Nat.le_of_ble_eq_true rfl)) dW_law_4 ⟨Nat.le_of_ble_eq_true rfl, Nat.le_of_ble_eq_true rfl⟩) hS hD hA (fun ad2 ce2 H locs hpost hP hD hS => ?_)
  obtain ⟨x0, k0, k1, xt, k33⟩ : ad2 0 = ad1 0 ∧ ce2 0 = .inr (2, [.ref (ad2 1), .ref (ad2 2), .ref (ad2 33), .int (nI 0), .int (nI 0)]) ∧ ce2 1 = .inl (cI, 4000, .inl (fun _ => 0)) ∧ TZ cI cO ad2 ce2 ∧ ce2 33 = .inl (cI, 512, .inl (fun _ => 0)) := hpost
  have ed2 : ∀ j, j < 1 → ad1 j = ad2 j := fun j h => by rw [show j = 0 by omega]; exact x0.symm
  skip
  refine W.eq (g2 := F0 m 7 ls [.ref (ad2 0)]) (by rw [ed2 0 (by omega)]) ?_
  have fa102 : ∀ j, j < 0 → ad2 j = ad j := fun j h => absurd h (Nat.not_lt_zero j)
  have fc102 : ∀ j, j < 0 → ce2 j = ce j := fun j h => absurd h (Nat.not_lt_zero j)
  refine lv_astore_n (lv' := [(1, .ref (ad2 0)), (0, .ref b)]) hx hb dW_law_7 rfl hl (by decide) rfl (fun ls hl => ?_)
  refine va_new (D := D) (ci := 3) (C := RM) (T := TM) (N := 9) (fs := [.int 0, .null, .null, .null, .null, .null, .int 0, .int 0, .int 0]) hx hb hA9 inM tyM tyM_ok hown (hA9 _ mcW_52) (hA9 _ mo_M) (hA9 _ mn_M) hK hP hD hS hA rfl (by decide +kernel) (Nat.le_of_ble_eq_true rfl) (Nat.le_of_ble_eq_true rfl) dW_law_8 (fun q H hP hD hS => ?_)
  rw [wx_push] at hP hD
  obtain ⟨ad3, hd3⟩ : ∃ z9, z9 = va_up ad2 34 q := ⟨_, rfl⟩
  obtain ⟨ce3, hc3⟩ : ∃ z9, z9 = va_up ce2 34 (.inr (3, [.int 0, .null, .null, .null, .null, .null, .int 0, .int 0, .int 0])) := ⟨_, rfl⟩
  rw [← hd3, ← hc3] at hP hD
  have eq3 : q = ad3 34 := by rw [hd3, va_up_self]
  have ed3 : ∀ j, j < 34 → ad2 j = ad3 j := fun j h => by rw [hd3, va_up_ne _ _ (by omega)]
  have ec3 : ∀ j, j < 34 → ce3 j = ce2 j := fun j h => by rw [hc3, va_up_ne _ _ (by omega)]
  have fa3 : ∀ j, j < 0 → ad3 j = ad j := fun j h => (ed3 j (by omega)).symm.trans (fa102 j h)
  have fc3 : ∀ j, j < 0 → ce3 j = ce j := fun j h => (ec3 j (by omega)).trans (fc102 j h)
  have q3_0 : ce3 0 = .inr (2, [.ref (ad3 1), .ref (ad3 2), .ref (ad3 33), .int (nI 0), .int (nI 0)]) := by rw [ec3 0 (by omega), k0, ed3 1 (by omega), ed3 2 (by omega), ed3 33 (by omega)]
  have q3_1 : ce3 1 = .inl (cI, 4000, .inl (fun _ => 0)) := by rw [ec3 1 (by omega), k1]
  have q3_33 : ce3 33 = .inl (cI, 512, .inl (fun _ => 0)) := by rw [ec3 33 (by omega), k33]
  have qn3 : ce3 34 = .inr (3, [.int 0, .null, .null, .null, .null, .null, .int 0, .int 0, .int 0]) := by rw [hc3, va_up_self]
  replace hl : lv_has ls 7 [(1, .ref (ad3 0)), (0, .ref b)] := by rw [← ed3 0 (by omega)]; exact hl
  refine W.eq (g2 := F0 m 11 ls [.ref (ad3 34)]) (by rw [eq3]) ?_
  clear hd3 hc3
  have xt3 : TZ cI cO ad3 ce3 := xt.cg (fun j q1 q2 => (ed3 j (by omega)).symm) (fun j q1 q2 => ec3 j (by omega))
  refine lv_dup hx hb dW_law_11 rfl ?_
  refine cg (va_runI (As := []) (rest := [.ref (ad3 34)]) ⟨hx, hb, hml, hown, hA9⟩ (c_M_init l D cI cO cJ ad3 ce3 _ qn3) (cwI 0 hA9 (gI mkM_init) rfl rfl rfl (hA9 _ mn_M) (hA9 _ mlW_54) (hA9 _ miM_init) rfl (by decide +kernel) ⟨Nat.le_of_ble_eq_true rfl, Nat.le_of_ble_eq_true rfl⟩) ⟨PM_bl, PM_mk hK hP hD⟩ rfl rfl hl.1 rfl (lv_room (Nat.le_of_ble_eq_true rfl)) dW_law_12 ⟨Nat.le_of_ble_eq_true rfl, Nat.le_of_ble_eq_true rfl⟩) hS hD hA (fun ad4 ce4 H locs hpost hP hD hS => ?_)
  obtain ⟨xa, xc, k34, k35, k36, k37, k38, k39⟩ : (∀ j, j < 35 → ad4 j = ad3 j) ∧ (∀ j, j < 34 → ce4 j = ce3 j) ∧ ce4 34 = .inr (3, [.int (nI 0), .ref (ad4 35), .ref (ad4 36), .ref (ad4 37), .ref (ad4 38), .ref (ad4 39), .int (nI 0), .int (nI 0), .int (nI 0)]) ∧ ce4 35 = .inl (cI, 4000, .inl (fun _ => 0)) ∧ ce4 36 = .inl (cI, 4000, .inl (fun _ => 0)) ∧ ce4 37 = .inl (cI, 512, .inl (fun _ => 0)) ∧ ce4 38 = .inl (cI, 512, .inl (fun _ => 0)) ∧ ce4 39 = .inl (cI, 512, .inl (fun _ => 0)) := hpost
  have ed4 : ∀ j, j < 35 → ad3 j = ad4 j := fun j h => (xa j h).symm
  have q4_0 : ce4 0 = .inr (2, [.ref (ad4 1), .ref (ad4 2), .ref (ad4 33), .int (nI 0), .int (nI 0)]) := by rw [xc 0 (by omega), q3_0, ed4 1 (by omega), ed4 2 (by omega), ed4 33 (by omega)]
  have q4_1 : ce4 1 = .inl (cI, 4000, .inl (fun _ => 0)) := by rw [xc 1 (by omega), q3_1]
  have q4_33 : ce4 33 = .inl (cI, 512, .inl (fun _ => 0)) := by rw [xc 33 (by omega), q3_33]
  have xt4 : TZ cI cO ad4 ce4 := xt3.cg (fun j q1 q2 => xa j (by omega)) (fun j q1 q2 => xc j (by omega))
  replace hl : lv_has ls 7 [(1, .ref (ad4 0)), (0, .ref b)] := by rw [← ed4 0 (by omega)]; exact hl
  refine W.eq (g2 := F0 m 15 ls [.ref (ad4 34)]) (by rw [ed4 34 (by omega)]) ?_
  have fa104 : ∀ j, j < 0 → ad4 j = ad j := fun j h => absurd h (Nat.not_lt_zero j)
  have fc104 : ∀ j, j < 0 → ce4 j = ce j := fun j h => absurd h (Nat.not_lt_zero j)
  refine lv_astore_n (lv' := [(2, .ref (ad4 34)), (1, .ref (ad4 0)), (0, .ref b)]) hx hb dW_law_15 rfl hl (by decide) rfl (fun ls hl => ?_)
  refine lv_iconst (v := nI 1) hx hb dW_law_16 (by decide +kernel) ?_
  refine ix_newJ (n := 1) hx hb (hA9 _ ma_long) hK hP hD hS hA (by omega) (Nat.le_of_ble_eq_true rfl) (Nat.le_of_ble_eq_true rfl) dW_law_17 (fun q H hP hD hS => ?_)
  obtain ⟨ad5, hd5⟩ : ∃ z9, z9 = va_up ad4 40 q := ⟨_, rfl⟩
  obtain ⟨ce5, hc5⟩ : ∃ z9, z9 = va_up ce4 40 (.inl (cJ, 1, .inr (.inl (fun _ => 0)))) := ⟨_, rfl⟩
  rw [← hd5, ← hc5] at hP hD
  have eq5 : q = ad5 40 := by rw [hd5, va_up_self]
  have ed5 : ∀ j, j < 40 → ad4 j = ad5 j := fun j h => by rw [hd5, va_up_ne _ _ (by omega)]
  have ec5 : ∀ j, j < 40 → ce5 j = ce4 j := fun j h => by rw [hc5, va_up_ne _ _ (by omega)]
  have fa5 : ∀ j, j < 0 → ad5 j = ad j := fun j h => (ed5 j (by omega)).symm.trans (fa104 j h)
  have fc5 : ∀ j, j < 0 → ce5 j = ce j := fun j h => (ec5 j (by omega)).trans (fc104 j h)
  have q5_0 : ce5 0 = .inr (2, [.ref (ad5 1), .ref (ad5 2), .ref (ad5 33), .int (nI 0), .int (nI 0)]) := by rw [ec5 0 (by omega), q4_0, ed5 1 (by omega), ed5 2 (by omega), ed5 33 (by omega)]
  have q5_1 : ce5 1 = .inl (cI, 4000, .inl (fun _ => 0)) := by rw [ec5 1 (by omega), q4_1]
  have q5_33 : ce5 33 = .inl (cI, 512, .inl (fun _ => 0)) := by rw [ec5 33 (by omega), q4_33]
  have q5_34 : ce5 34 = .inr (3, [.int (nI 0), .ref (ad5 35), .ref (ad5 36), .ref (ad5 37), .ref (ad5 38), .ref (ad5 39), .int (nI 0), .int (nI 0), .int (nI 0)]) := by rw [ec5 34 (by omega), k34, ed5 35 (by omega), ed5 36 (by omega), ed5 37 (by omega), ed5 38 (by omega), ed5 39 (by omega)]
  have q5_35 : ce5 35 = .inl (cI, 4000, .inl (fun _ => 0)) := by rw [ec5 35 (by omega), k35]
  have q5_36 : ce5 36 = .inl (cI, 4000, .inl (fun _ => 0)) := by rw [ec5 36 (by omega), k36]
  have q5_37 : ce5 37 = .inl (cI, 512, .inl (fun _ => 0)) := by rw [ec5 37 (by omega), k37]
  have q5_38 : ce5 38 = .inl (cI, 512, .inl (fun _ => 0)) := by rw [ec5 38 (by omega), k38]
  have q5_39 : ce5 39 = .inl (cI, 512, .inl (fun _ => 0)) := by rw [ec5 39 (by omega), k39]
  have qn5 : ce5 40 = .inl (cJ, 1, .inr (.inl (fun _ => 0))) := by rw [hc5, va_up_self]
  replace hl : lv_has ls 7 [(2, .ref (ad5 34)), (1, .ref (ad5 0)), (0, .ref b)] := by rw [← ed5 34 (by omega), ← ed5 0 (by omega)]; exact hl
  refine W.eq (g2 := F0 m 19 ls [.ref (ad5 40)]) (by rw [eq5]) ?_
  clear hd5 hc5
  have xt5 : TZ cI cO ad5 ce5 := xt4.cg (fun j q1 q2 => (ed5 j (by omega)).symm) (fun j q1 q2 => ec5 j (by omega))
  refine lv_astore_n (lv' := [(3, .ref (ad5 40)), (2, .ref (ad5 34)), (1, .ref (ad5 0)), (0, .ref b)]) hx hb dW_law_19 rfl hl (by decide) rfl (fun ls hl => ?_)
  refine lv_iconst (v := nI 0) hx hb dW_law_20 (by decide +kernel) ?_
  refine lv_istore (lv' := [(4, .int (nI 0)), (3, .ref (ad5 40)), (2, .ref (ad5 34)), (1, .ref (ad5 0)), (0, .ref b)]) hx hb dW_law_21 hl (by decide) rfl (fun ls hl => ?_)
  refine W.widen (k := 41) (n := 24380) (Nat.le_of_ble_eq_true rfl) (Nat.le_of_ble_eq_true rfl) ?_
  exact law_loop C hr hlocks hL 2049 0 0 41 24380 ce5 H locs ls (by omega) (by omega) ⟨fun _ _ => 0, 0, fun _ => 0, 0, fun _ => 0, fun _ => 0, fun _ => 0, fun _ => 0, fun _ => 0, fun _ => 0, fun _ => 0, fun _ => 0, nI 0, fun _ => 0, fun _ => 0, fun _ => 0, tz_tr _ xt5, wm0 _ _, fun i h => absurd h (Nat.not_lt_zero i), q5_0, q5_1, A5.z, ⟨xt5.2.2.2.1, A5.z⟩, ⟨xt5.2.2.2.2, A5.z⟩, q5_33, by omega, q5_34, q5_35, q5_36, fun i h => absurd h (Nat.not_lt_zero i), q5_37, q5_38, q5_39, fun i h => absurd h (Nat.not_lt_zero i), qn5⟩ (by omega) (by omega) (by omega) hP hD hS hl

set_option maxHeartbeats 4000000 in
theorem lw_walk (l : Launch) (hlt : l.stackTraces = false) (b : Addr) (xs : List Int32) : MetFree l x (headSpec (Jvm.Cond.code x code maxLocals ret :: tables_1) room_1) (lw_P b xs) (fun _ _ _ _ _ => True) lw_Q := by
  refine MetFree.of_bodyS (code := code) (maxLocals := maxLocals) (ret := ret) (by decide) ?_ ?_
  · intro args s m h hn
    obtain ⟨meth, c, h1, h2, h3, h4, h5, h6, -, -⟩ := Cond.code_spec hn (atoms_spec (ws := Jvm.Cond.code x code maxLocals ret :: tables_1) h _ List.mem_cons_self)
    exact ⟨meth, c, h1, h2, h3, h4, h5, h6⟩
  · intro p e s m args below meth c s₁ B hml0 hP _
    obtain ⟨rfl, hx, hbd, hgv⟩ := hP
    obtain ⟨scr, harrAt, hlist, hof, hsmall⟩ := hx
    obtain ⟨hcb, hkn, -, -⟩ := State.arrayAt?_spec harrAt
    have hown : s.vm.findClass R_law = some m.cls := findClass_of_methodNamed B.named
    have hts0 : ∀ c ∈ (Jvm.Cond.code x code maxLocals ret :: tables_1), c.before #[Value.ref b] s = true := atoms_spec (ws := Jvm.Cond.code x code maxLocals ret :: tables_1) B.pre
    have hts : ∀ w ∈ lw_tbl, w.before #[Value.ref b] s = true := k2_hts_sels lw_privs (fun w hw => hts0 w (List.mem_cons_of_mem _ hw)) lw_privs_ok
    have hml : c.maxLocals = 7 := B.maxLocals_eq (hts0 _ List.mem_cons_self)
    have X₀ : Stand p l e room_1 s m #[Value.ref b] below meth c s₁ [] 0 0 := Stand.of_body B
    have hh0 : s₁.heap = s.heap := by rw [B.state]; rfl
    have hsz : scr.slots.size = xs.length := by rw [← Array.length_toList, hlist, List.length_map]
    have hval : ∀ j : Nat, j < xs.length → scr.slots[j]? = some (.int (xs.getD j 0)) := fun j hj => by
      rw [← Array.getElem?_toList, hlist]
      simp [hj]
    have hbl : b < s.heap.size := (Array.getElem?_eq_some_iff.mp hcb).1
    have hX : va_X b xs.length (fun j => xs.getD j 0) s s.heap := ⟨scr, hcb, hof, hkn, hsz, hval⟩
    have K : W p l e room_1 s m #[Value.ref b] below meth c s₁.heap [] 0 0 (lw_Z below #[Value.ref b] s) (entryFrame m ([Value.ref b] : List Value).toArray 7) := by
      rw [hh0]
      exact whole_start l hlt hbd ⟨B.exec, B.bytes, B.returns, hml, hown, hts, hX, hbl, B.notSynchronized, hgv⟩
    obtain ⟨t, a1, o, b1, b2, b3⟩ := K s₁ rfl X₀
    exact ⟨t, o, a1, b1, b2, b3⟩
theorem lw_pre_spec {args : Array Value} {s : State} (h : (Jvm.Cond.and given_1 narrow_1).before args s = true) (hr : rest_1_c.before args s = true) : ∃ (b : Addr) (xs : List Int32), lw_P b xs args s := by
  have hs := flat_of_before _ h
  have hq := flat_of_before _ hr
  have hc : (Cond.count 1).before args s = true := hs _ (by decide +kernel)
  have harr : (Cond.arrayOf (.arg 0) .int).before args s = true := hs _ (by decide +kernel)
  have hle : (Cond.le (.length (.arg 0)) (.int 2048)).before args s = true := hs _ (by decide +kernel)
  have hlen : (Cond.isInt (.length (.arg 0))).before args s = true := hq _ (by decide +kernel)
  have hall : (Cond.all (.arg 0) (.isInt (.elem (.arg 0) (.index 0)))).before args s = true := hq _ (by decide +kernel)
  obtain ⟨b, xs, hb, hx⟩ := State.ints_of_pre rfl harr hlen hall
  have hsm : xs.length < 2 ^ 31 := hx.choose_spec.2.2.2
  have hev : (Term.length (.arg 0)).eval args s none [] s = some (.int xs.length.toInt32) := hx.length_eval hb
  have hv := Cond.le_ints hev (show (Term.int 2048).eval args s none [] s = some (.int 2048) from rfl)
  have hd : xs.length.toInt32 ≤ 2048 := by
    simpa [Cond.before, Cond.holds, hv] using hle
  have hN : xs.length ≤ 2048 := (Int32.ofNat_le_ofNat hsm (by decide)).mp (show Int32.ofNat xs.length ≤ Int32.ofNat 2048 from hd)
  exact ⟨b, xs, Cond.one_arg hc (show args[0]? = some (.ref b) from hb), hx, hN, h⟩
theorem lw_comes (l : Launch) (hlt : l.stackTraces = false) : Comes l x (Jvm.Cond.code x code maxLocals ret :: tables_1) room_1 (fun tb e args s => Calls_1 tb e args s ∧ rest_1 tb e args s ∧ Pre_1 tb e args s)
    (fun _ _ args s o t => lw_Q args s o t) := by
  intro p e ha hc hk s m args below hf hfit hheap happ hpre
  obtain ⟨b, xs, hP⟩ := lw_pre_spec hpre.2.2 hpre.2.1
  obtain ⟨k, o, h1, h2, h3, hQ⟩ := lw_walk l hlt b xs p e ha hc hk s m args below hf ((Spec.applies_iff_loose hf).mp happ).1 hP trivial
  exact ⟨k, o, h1, h2, h3, hQ⟩
theorem lw_frame {s t : State} {o : Outcome} {args : Array Value} (h : Framed s o t [] 601024 7293034) :
    Framed s o t (fieldLocs frame_1_writes args s ++ arrayLocs frame_1_arrays args s ++ staticLocs frame_1_statics s) 601024 7293034 := h
theorem lw_limb (L : Cond) (hL : ∀ (args : Array Value) (s t : State), L.after args s (.returned (some (.int 1))) t = true) :
    ArmFor flags0 classFile x code maxLocals ret World_1 tables_1 room_1 Calls_1 rest_1 Pre_1
      (fun tb e a s o t => postC L tb e a s o t ∧ Framed s o t (fieldLocs frame_1_writes a s ++ arrayLocs frame_1_arrays a s ++ staticLocs frame_1_statics s) 601024 7293034) := by
  intro l hfl _ _ p e ha hc hk s m args below hf hfit hheap happ hpre
  obtain ⟨k, o, h1, h2, h3, rfl, hF⟩ := lw_comes l (by unfold Launch.stackTraces; rw [hfl]; decide +kernel) p e ha hc hk s m args below hf hfit hheap happ hpre
  exact ⟨k, _, h1, h2, h3, hL args s _, lw_frame hF⟩
theorem i_vc : Claimed_1_1 ∧ Claimed_1_2 := ⟨lw_limb limb_1_1 (fun args s t => by simp [limb_1_1, Cond.after, Cond.holds, Cond.value]), lw_limb limb_1_2 (fun args s t => Cond.after_iff.mpr (by
  first | (rw [show limb_1_2 = Cond.eq .result (.int 1) from rfl, Cond.eq_ints (x := 1) (y := 1) rfl rfl]; simp; done) | (simp [limb_1_2, Cond.value, Term.eval]; done)))⟩
