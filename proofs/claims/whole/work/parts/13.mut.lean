/-! methods that write: the start, the end, calls, things made -/
/-- the places that a method may write: the world's, and all that come -/
def AW (N : Nat) (ad : Nat → Nat) (sz : Nat) : Nat → Prop := fun q => (∃ k, k < N ∧ q = ad k) ∨ sz ≤ q
theorem aw_D {N : Nat} {ad : Nat → Nat} {ce : Nat → va_E} {sz : Nat} {A : Nat → Prop} (h : va_D A (wx N ad ce)) : va_D (AW N ad sz) (wx N ad ce) := ⟨h.1, fun k q hk => by
  obtain ⟨h1, h2⟩ := wx_some hk
  exact Or.inl ⟨k, h1, congrArg Prod.fst h2⟩⟩
theorem aw_in {N : Nat} {ad : Nat → Nat} {ce : Nat → va_E} {A : Nat → Prop} {H0 H : Heap} {locs : List Loc} (hD : va_D A (wx N ad ce)) (hS : va_S A H0 H locs) (hA : ∀ q, H0.size ≤ q → A q) : ∀ q, AW N ad H.size q → A q := fun q h => by
  rcases h with ⟨k, hk, rfl⟩ | h
  · exact hD.2 k _ (wx_at hk rfl)
  · exact hA q (Nat.le_trans hS.1 h)
def PM (D : va_G) (ty : List (ClassId × FieldType)) (N : Nat) (ad : Nat → Nat) (ce : Nat → va_E) (sz : Nat) (av : List Value) : Array Value → State → Prop := va_Pc av (fun U => U.heap.size = sz ∧ va_P D CLS (wx N ad ce) U.heap ∧ va_K D CLS ty U ∧ va_D (fun _ => True) (wx N ad ce))
theorem PM_bl {D : va_G} {ty : List (ClassId × FieldType)} {N : Nat} {ad : Nat → Nat} {ce : Nat → va_E} {sz : Nat} {av : List Value} : FrameBlind (PM D ty N ad ce sz av) := fun a U g mk q => ⟨q.1, q.2.1, q.2.2.1, va_K.moved (u := U) (U := U.calling g mk a) (Vm.Alike.refl U.vm) q.2.2.2.1, q.2.2.2.2⟩
theorem PM_mk {D : va_G} {ty : List (ClassId × FieldType)} {N : Nat} {ad : Nat → Nat} {ce : Nat → va_E} {av : List Value} {s : State} {H : Heap} {A : Nat → Prop} (hK : va_K D CLS ty s) (hP : va_P D CLS (wx N ad ce) H) (hD : va_D A (wx N ad ce)) : ∀ U : State, U.heap = H → s.WarmedH U.vm → PM D ty N ad ce H.size av av.toArray U := fun U hU hW => ⟨rfl, by rw [hU], by rw [hU]; exact hP, va_K.moved hW.alike hK, hD.weaken (fun _ _ _ _ => trivial)⟩
/-- the world behind a method that writes -/
def BW (D : va_G) (ty : List (ClassId × FieldType)) (N : Nat) (ad : Nat → Nat) (A : Nat → Prop) (ce : Nat → va_E) (t : State) : Prop := va_P D CLS (wx N ad ce) t.heap ∧ va_K D CLS ty t ∧ va_D A (wx N ad ce)
/-- the same where things were made -/
def BG (D : va_G) (ty : List (ClassId × FieldType)) (N : Nat) (A : Nat → Prop) (u : (Nat → Nat) × (Nat → va_E)) (t : State) : Prop := va_P D CLS (wx N u.1 u.2) t.heap ∧ va_K D CLS ty t ∧ va_D A (wx N u.1 u.2)
theorem wx_at' {N : Nat} {ad : Nat → Nat} {ce : Nat → va_E} {k a : Nat} {x : va_E} (h : k < N) (ha : ad k = a) (he : ce k = x) : (wx N ad ce)[k]? = some (a, x) := by rw [← ha]; exact wx_at h he
theorem wx_set' {N : Nat} {ad : Nat → Nat} {ce : Nat → va_E} {k a : Nat} {x : va_E} (h : k < N) (ha : ad k = a) : (wx N ad ce).set k (a, x) = wx N ad (va_up ce k x) := by rw [← ha]; exact wx_set h
section
variable {p : Program} {l : Launch} {e : Env} {R : Room} {s : State} {m : MethodId} {args : Array Value} {below : List Frame} {meth : Method} {c : Code} {H H0 : Heap} {locs : List Loc} {cells slots mc ms pc : Nat} {Q : State → Prop} {D : va_G} {ty : List (ClassId × FieldType)} {N : Nat} {ad : Nat → Nat} {ce : Nat → va_E} {A : Nat → Prop} {ls : Array Slot} {rest st0 : List Value} {a : Array Value} {cc : ByteArray}
theorem cv {post : (Nat → va_E) → Prop} (hr : va_Run p l e R s m args below meth c H locs cells slots mc ms (F0 m pc ls st0) rest (va_Qv post (BW D ty N ad (AW N ad H.size)) (AW N ad H.size) a) (AW N ad H.size)) (hS : va_S A H0 H locs) (hD : va_D A (wx N ad ce)) (hA : ∀ q, H0.size ≤ q → A q)
    (kk : ∀ (ce1 : Nat → va_E) (H : Heap) (locs : List Loc), post ce1 → va_P D CLS (wx N ad ce1) H → va_D A (wx N ad ce1) → va_S A H0 H locs → W p l e R s m args below meth c H locs (cells + mc) (slots + ms) Q (F0 m (pc + 3) ls rest)) : W p l e R s m args below meth c H locs cells slots Q (F0 m pc ls st0) :=
  va_callv hr hS (fun q _ h => aw_in hD hS hA q h) (aw_in hD hS hA) (fun u t H1 locs1 ht hvm hw hB hz hk hS1 => kk u H1 locs1 hw (by rw [← ht]; exact hB.1) (hB.2.2.weaken (fun _ q _ h => aw_in hD hS hA q.1 h)) hS1)
theorem cvi {post : Int32 → (Nat → va_E) → Prop} (hr : va_Run p l e R s m args below meth c H locs cells slots mc ms (F0 m pc ls st0) rest (va_Qi post (BW D ty N ad (AW N ad H.size)) (AW N ad H.size) a) (AW N ad H.size)) (hS : va_S A H0 H locs) (hD : va_D A (wx N ad ce)) (hA : ∀ q, H0.size ≤ q → A q)
    (kk : ∀ (r : Int32) (ce1 : Nat → va_E) (H : Heap) (locs : List Loc), post r ce1 → va_P D CLS (wx N ad ce1) H → va_D A (wx N ad ce1) → va_S A H0 H locs → W p l e R s m args below meth c H locs (cells + mc) (slots + ms) Q (F0 m (pc + 3) ls (.int r :: rest))) : W p l e R s m args below meth c H locs cells slots Q (F0 m pc ls st0) :=
  va_calli hr hS (fun q _ h => aw_in hD hS hA q h) (aw_in hD hS hA) (fun r u t H1 locs1 ht hvm hw hB hz hk hS1 => kk r u H1 locs1 hw (by rw [← ht]; exact hB.1) (hB.2.2.weaken (fun _ q _ h => aw_in hD hS hA q.1 h)) hS1)
/-- a call that makes things -/
theorem cg {N' : Nat} {post : (Nat → Nat) × (Nat → va_E) → Prop} (hr : va_Run p l e R s m args below meth c H locs cells slots mc ms (F0 m pc ls st0) rest (va_Qv post (BG D ty N' (AW N ad H.size)) (AW N ad H.size) a) (AW N ad H.size)) (hS : va_S A H0 H locs) (hD : va_D A (wx N ad ce)) (hA : ∀ q, H0.size ≤ q → A q)
    (kk : ∀ (ad1 : Nat → Nat) (ce1 : Nat → va_E) (H : Heap) (locs : List Loc), post (ad1, ce1) → va_P D CLS (wx N' ad1 ce1) H → va_D A (wx N' ad1 ce1) → va_S A H0 H locs → W p l e R s m args below meth c H locs (cells + mc) (slots + ms) Q (F0 m (pc + 3) ls rest)) : W p l e R s m args below meth c H locs cells slots Q (F0 m pc ls st0) :=
  va_callv hr hS (fun q _ h => aw_in hD hS hA q h) (aw_in hD hS hA) (fun u t H1 locs1 ht hvm hw hB hz hk hS1 => kk u.1 u.2 H1 locs1 hw (by rw [← ht]; exact hB.1) (hB.2.2.weaken (fun _ q _ h => aw_in hD hS hA q.1 h)) hS1)
theorem ix_newI {cI cO cJ : ClassId} (hexec : p.tables.exec = Jvm.exec) (hb : c.code = cc) (harr : (Cond.arrayClass .int).before args s = true) (hK : va_K D CLS (TY cI cO cJ) s) (hP : va_P D CLS (wx N ad ce) H) (hD : va_D A (wx N ad ce)) (hS : va_S A H0 H locs) (hA : ∀ q, H0.size ≤ q → A q)
    {n : Nat} (hn : n ≤ 100000) (hcells : cells + 1 ≤ R.cells) (hslots : slots + n ≤ R.slots) (hdg : decode cc pc = .ok (.newarray .int, 2))
    (kk : ∀ (q : Nat) (H1 : Heap), va_P D CLS (wx (N + 1) (va_up ad N q) (va_up ce N (.inl (cI, n, .inl (fun _ => 0))))) H1 → va_D A (wx (N + 1) (va_up ad N q) (va_up ce N (.inl (cI, n, .inl (fun _ => 0))))) → va_S A H0 H1 locs →
      W p l e R s m args below meth c H1 locs (cells + 1) (slots + n) Q (F0 m (pc + 2) ls (.ref q :: rest))) : W p l e R s m args below meth c H locs cells slots Q (F0 m pc ls (.int (nI n) :: rest)) := by
  refine va_newa hexec hb (atype := .int) harr (ty := .int) rfl hK hP hD hS hA (N' := n) (a0 := (n, .inl (fun _ => 0))) (fun _ => rfl) (nI_pos (by omega)) (nI_clamp (by omega)) (by show n * 4 ≤ _; omega) hcells hslots hdg (fun q cA H1 hK1 hP1 hD1 hS1 => ?_)
  have e1 := (hK1.2 3 (cA, .int) rfl).2
  have e2 := (hK.2 0 (cI, .int) rfl).2
  obtain rfl : cA = cI := Option.some.inj (Eq.trans (Eq.symm e1) e2)
  rw [wx_push] at hP1 hD1
  exact kk q H1 hP1 hD1 hS1
theorem ix_newJ {cI cO cJ : ClassId} (hexec : p.tables.exec = Jvm.exec) (hb : c.code = cc) (harr : (Cond.arrayClass .long).before args s = true) (hK : va_K D CLS (TY cI cO cJ) s) (hP : va_P D CLS (wx N ad ce) H) (hD : va_D A (wx N ad ce)) (hS : va_S A H0 H locs) (hA : ∀ q, H0.size ≤ q → A q)
    {n : Nat} (hn : n ≤ 100000) (hcells : cells + 1 ≤ R.cells) (hslots : slots + n ≤ R.slots) (hdg : decode cc pc = .ok (.newarray .long, 2))
    (kk : ∀ (q : Nat) (H1 : Heap), va_P D CLS (wx (N + 1) (va_up ad N q) (va_up ce N (.inl (cJ, n, .inr (.inl (fun _ => 0)))))) H1 → va_D A (wx (N + 1) (va_up ad N q) (va_up ce N (.inl (cJ, n, .inr (.inl (fun _ => 0)))))) → va_S A H0 H1 locs →
      W p l e R s m args below meth c H1 locs (cells + 1) (slots + n) Q (F0 m (pc + 2) ls (.ref q :: rest))) : W p l e R s m args below meth c H locs cells slots Q (F0 m pc ls (.int (nI n) :: rest)) := by
  refine va_newa hexec hb (atype := .long) harr (ty := .long) rfl hK hP hD hS hA (N' := n) (a0 := (n, .inr (.inl (fun _ => 0)))) (fun _ => rfl) (nI_pos (by omega)) (nI_clamp (by omega)) (by show n * 8 ≤ _; omega) hcells hslots hdg (fun q cA H1 hK1 hP1 hD1 hS1 => ?_)
  have e1 := (hK1.2 3 (cA, .long) rfl).2
  have e2 := (hK.2 2 (cJ, .long) rfl).2
  obtain rfl : cA = cJ := Option.some.inj (Eq.trans (Eq.symm e1) e2)
  rw [wx_push] at hP1 hD1
  exact kk q H1 hP1 hD1 hS1
theorem ix_newO {cI cO cJ : ClassId} {own : String} {index : Nat} (hexec : p.tables.exec = Jvm.exec) (hb : c.code = cc) (hown : s.vm.findClass own = some m.cls) (hclink : (Cond.classLink own index RV).before args s = true) (hover : va_AO RV s) (hK : va_K D CLS (TY cI cO cJ) s) (hP : va_P D CLS (wx N ad ce) H) (hD : va_D A (wx N ad ce)) (hS : va_S A H0 H locs) (hA : ∀ q, H0.size ≤ q → A q)
    {n : Nat} (hn : n ≤ 100000) (hcells : cells + 1 ≤ R.cells) (hslots : slots + n ≤ R.slots) (hdg : decode cc pc = .ok (.anewarray index, 3))
    (kk : ∀ (q : Nat) (H1 : Heap), va_P D CLS (wx (N + 1) (va_up ad N q) (va_up ce N (.inl (cO, n, .inr (.inr (.inr (.inr (fun _ => none)))))))) H1 → va_D A (wx (N + 1) (va_up ad N q) (va_up ce N (.inl (cO, n, .inr (.inr (.inr (.inr (fun _ => none)))))))) → va_S A H0 H1 locs →
      W p l e R s m args below meth c H1 locs (cells + 1) (slots + n) Q (F0 m (pc + 3) ls (.ref q :: rest))) : W p l e R s m args below meth c H locs cells slots Q (F0 m pc ls (.int (nI n) :: rest)) := by
  refine va_newq hexec hb hown hclink hover hK hP hD hS hA (N' := n) (nI_pos (by omega)) (nI_clamp (by omega)) (by omega) hcells hslots hdg (fun q cA H1 hK1 hP1 hD1 hS1 => ?_)
  obtain ⟨-, -, -, -, -, e1⟩ := (hK1.2 3 (cA, .object RV) rfl).2
  obtain ⟨-, -, -, -, -, e2⟩ := (hK.2 1 (cO, .object RV) rfl).2
  obtain rfl : cA = cO := Option.some.inj (Eq.trans (Eq.symm e1) e2)
  rw [wx_push] at hP1 hD1
  exact kk q H1 hP1 hD1 hS1
end
