/-! the world as numbered cells: cell k at ad k, with what ce k says -/
def wx (N : Nat) (ad : Nat → Nat) (ce : Nat → va_E) : va_W := (List.range N).map (fun k => (ad k, ce k))
theorem wx_at {N : Nat} {ad : Nat → Nat} {ce : Nat → va_E} {k : Nat} {x : va_E} (h : k < N) (he : ce k = x) : (wx N ad ce)[k]? = some (ad k, x) := by
  unfold wx
  rw [List.getElem?_map, List.getElem?_range h]
  show some (ad k, ce k) = _
  rw [he]
theorem wx_some {N : Nat} {ad : Nat → Nat} {ce : Nat → va_E} {k : Nat} {q : Nat × va_E} (h : (wx N ad ce)[k]? = some q) : k < N ∧ q = (ad k, ce k) := by
  unfold wx at h
  rw [List.getElem?_map] at h
  rcases Nat.lt_or_ge k N with c | c
  · rw [List.getElem?_range c] at h
    exact ⟨c, (Option.some.inj h).symm⟩
  · rw [List.getElem?_eq_none (by rw [List.length_range]; exact c)] at h
    cases h
theorem wx_set {N : Nat} {ad : Nat → Nat} {ce : Nat → va_E} {k : Nat} {x : va_E} (h : k < N) : (wx N ad ce).set k (ad k, x) = wx N ad (va_up ce k x) := by
  apply List.ext_getElem?
  intro j
  by_cases hj : j = k
  · subst hj
    rw [List.getElem?_set_self (by unfold wx; rw [List.length_map, List.length_range]; exact h), wx_at h (va_up_self ce j x)]
  · rw [List.getElem?_set_ne (Ne.symm hj)]
    rcases Nat.lt_or_ge j N with c | c
    · rw [wx_at c rfl, wx_at c (va_up_ne ce x hj)]
    · unfold wx
      rw [List.getElem?_eq_none (by rw [List.length_map, List.length_range]; exact c), List.getElem?_eq_none (by rw [List.length_map, List.length_range]; exact c)]
theorem wx_push {N : Nat} {ad : Nat → Nat} {ce : Nat → va_E} {q : Nat} {x : va_E} : wx N ad ce ++ [(q, x)] = wx (N + 1) (va_up ad N q) (va_up ce N x) := by
  unfold wx
  rw [List.range_succ, List.map_append, List.map_singleton, va_up_self, va_up_self]
  congr 1
  apply List.map_congr_left
  intro k hk
  have : k ≠ N := by have := List.mem_range.mp hk; omega
  rw [va_up_ne _ _ this, va_up_ne _ _ this]
theorem wx_A {N : Nat} {ad : Nat → Nat} {ce ce' : Nat → va_E} {sz q : Nat} (h : va_A (wx N ad ce) sz q) : va_A (wx N ad ce') sz q := by
  rcases h with ⟨k, e, h⟩ | h
  · obtain ⟨hk, hq⟩ := wx_some h
    exact Or.inl ⟨k, ce' k, by rw [wx_at hk rfl, show q = ad k from congrArg Prod.fst hq]⟩
  · exact Or.inr h
/-- all words that hold at every state of a run -/
theorem wa_good {w : Cond} (h : w ∈ WA) : goodWord w = true := (List.mem_filter.mp h).2
theorem gd {ws : List Cond} (h : ∀ w ∈ ws, w ∈ WA) : GoodIn WA ws := fun w hw => ⟨h w hw, good_of_word (wa_good (h w hw))⟩
theorem gV {own C : String} {i n : Nat} {y : MethodName} {b : ByteArray} {r : Option FieldType} (h1 : Cond.methodLink own i y ∈ WA) (h2 : Cond.instanceMethod y ∈ WA) (h3 : Cond.selects C y y ∈ WA) (h4 : Cond.initialized C ∈ WA) (h5 : Cond.code y b n r ∈ WA) : GoodIn WA (wsV own i C y (.code y b n r :: WA)) := gd fun w hw => by
  rcases List.mem_append.mp hw with h | h
  · simp only [List.mem_cons, List.not_mem_nil, or_false] at h
    rcases h with rfl | rfl | rfl | rfl <;> assumption
  · rcases List.mem_cons.mp h with rfl | h
    · exact h5
    · exact h
theorem gS {own : String} {i n : Nat} {y : MethodName} {b : ByteArray} {r : Option FieldType} (h1 : Cond.methodLink own i y ∈ WA) (h2 : Cond.static y ∈ WA) (h4 : Cond.initialized y.cls ∈ WA) (h5 : Cond.code y b n r ∈ WA) : GoodIn WA (va_wsS own i y (.code y b n r :: WA)) := gd fun w hw => by
  rcases List.mem_append.mp hw with h | h
  · simp only [List.mem_cons, List.not_mem_nil, or_false] at h
    rcases h with rfl | rfl | rfl <;> assumption
  · rcases List.mem_cons.mp h with rfl | h
    · exact h5
    · exact h
theorem gSW {own : String} {i n : Nat} {y : MethodName} {b : ByteArray} {r : Option FieldType} {hh : List (Nat × Nat × Nat × Nat)} (h1 : Cond.methodLink own i y ∈ WA) (h2 : Cond.static y ∈ WA) (h4 : Cond.initialized y.cls ∈ WA) (h5 : Cond.codeWith y b n r hh ∈ WA) : GoodIn WA (va_wsS own i y (.codeWith y b n r hh :: WA)) := gd fun w hw => by
  rcases List.mem_append.mp hw with h | h
  · simp only [List.mem_cons, List.not_mem_nil, or_false] at h
    rcases h with rfl | rfl | rfl <;> assumption
  · rcases List.mem_cons.mp h with rfl | h
    · exact h5
    · exact h
theorem gI {n : Nat} {y : MethodName} {b : ByteArray} {r : Option FieldType} (h5 : Cond.code y b n r ∈ WA) : GoodIn WA (.code y b n r :: WA) := gd fun w hw => by
  rcases List.mem_cons.mp hw with rfl | h
  · exact h5
  · exact h
/-- what the tables say of the classes, and of the arrays of int, of levels, of long -/
abbrev TY (cI cO cJ : ClassId) : List (ClassId × FieldType) := [(cI, .int), (cO, .object RV), (cJ, .long)]
/-- the start of a method that reads alone -/
def PR (D : va_G) (ty : List (ClassId × FieldType)) (N : Nat) (ad : Nat → Nat) (ce : Nat → va_E) (av : List Value) : Array Value → State → Prop := va_Pc av (fun U => va_P D CLS (wx N ad ce) U.heap ∧ va_K D CLS ty U)
theorem PR_bl {D : va_G} {ty : List (ClassId × FieldType)} {N : Nat} {ad : Nat → Nat} {ce : Nat → va_E} {av : List Value} : FrameBlind (PR D ty N ad ce av) := fun a U g mk q => ⟨q.1, q.2.1, va_K.moved (u := U) (U := U.calling g mk a) (Vm.Alike.refl U.vm) q.2.2⟩
theorem PR_mk {D : va_G} {ty : List (ClassId × FieldType)} {N : Nat} {ad : Nat → Nat} {ce : Nat → va_E} {av : List Value} {s : State} {H : Heap} (hK : va_K D CLS ty s) (hP : va_P D CLS (wx N ad ce) H) : ∀ U : State, U.heap = H → s.WarmedH U.vm → PR D ty N ad ce av av.toArray U := fun U hU hW => ⟨rfl, by rw [hU]; exact hP, va_K.moved hW.alike hK⟩
theorem wx_recv {D : va_G} {ty : List (ClassId × FieldType)} {N : Nat} {ad : Nat → Nat} {ce : Nat → va_E} {s : State} {H : Heap} (hK : va_K D CLS ty s) (hP : va_P D CLS (wx N ad ce) H) {k ci n : Nat} {C : String} {T : u_T} {fs : List Value} (hk : k < N) (he : ce k = .inr (ci, fs)) (hc : CLS[ci]? = some (C, T, n)) : ∃ cellB : Cell, H[ad k]? = some cellB ∧ cellB.vm.isStatics = false ∧ s.vm.findClass C = some cellB.cls := va_recv hK hP (ci := ci) (q0 := k) hc (wx_at hk he)
/-- a method without a world -/
def P0 (av : List Value) : Array Value → State → Prop := va_Pc av (fun _ => True)
theorem P0_bl {av : List Value} : FrameBlind (P0 av) := fun a U g mk q => ⟨q.1, trivial⟩
theorem P0_mk {av : List Value} {s : State} {H : Heap} : ∀ U : State, U.heap = H → s.WarmedH U.vm → P0 av av.toArray U := fun U _ _ => ⟨rfl, trivial⟩
theorem leN {a b : Nat} (h : nI a ≤ nI b) (ha : a < 2147483648 := by omega) (hb : b < 2147483648 := by omega) : a ≤ b := (nI_leI ha hb).mp h
theorem ltN {a b : Nat} (h : nI a < nI b) (ha : a < 2147483648 := by omega) (hb : b < 2147483648 := by omega) : a < b := (nI_ltI ha hb).mp h
theorem nleN {a b : Nat} (h : ¬ nI a ≤ nI b) (ha : a < 2147483648 := by omega) (hb : b < 2147483648 := by omega) : b < a := Nat.not_le.mp (fun q => h ((nI_leI ha hb).mpr q))
theorem nltN {a b : Nat} (h : ¬ nI a < nI b) (ha : a < 2147483648 := by omega) (hb : b < 2147483648 := by omega) : b ≤ a := Nat.not_lt.mp (fun q => h ((nI_ltI ha hb).mpr q))
theorem eqN {a b : Nat} (h : nI a = nI b) (ha : a < 2147483648 := by omega) (hb : b < 2147483648 := by omega) : a = b := (nI_eq ha hb).mp h
theorem neN {a b : Nat} (h : ¬ nI a = nI b) (ha : a < 2147483648 := by omega) (hb : b < 2147483648 := by omega) : a ≠ b := fun q => h (by rw [q])
theorem clN {a : Nat} (ha : a < 2147483648 := by omega) : (nI a).toNatClampNeg = a := nI_clamp ha
theorem inN {a n : Nat} (h : a < n := by omega) (hn : n < 2147483648 := by omega) : vp_in (nI a) n := vp_in_nI h hn
