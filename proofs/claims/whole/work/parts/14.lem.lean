/-! rows for the building: words of bits, ranks, zeros in front -/
/-- every place holds a number below 512 -/
def A5 (g : Nat → Int32) : Prop := ∀ j, ∃ x, x < 512 ∧ g j = nI x
/-- the number at a place -/
def vl (g : Nat → Int32) (j : Nat) : Nat := (g j).toNatClampNeg
theorem A5.v {g : Nat → Int32} (h : A5 g) (j : Nat) : vl g j < 512 ∧ g j = nI (vl g j) := by
  obtain ⟨x, hx, e⟩ := h j
  have : vl g j = x := by unfold vl; rw [e, nI_clamp (by omega)]
  rw [this]; exact ⟨hx, e⟩
theorem A5.e {g : Nat → Int32} {j x : Nat} (h : g j = nI x) (hx : x < 2147483648) : vl g j = x := by unfold vl; rw [h, nI_clamp hx]
theorem A5.u {g : Nat → Int32} (h : A5 g) {k x : Nat} (hx : x < 512) : A5 (upd g k (nI x)) := fun j => by
  unfold upd
  split
  · exact ⟨x, hx, rfl⟩
  · exact h j
theorem A5.u2 {g g2 : Nat → Int32} (h : A5 g) (h2 : A5 g2) {k i : Nat} : A5 (upd g k (g2 i)) := by
  rw [(h2.v i).2]; exact h.u (h2.v i).1
theorem A5.c {g g2 : Nat → Int32} (h : A5 g) (h2 : A5 g2) {a b n : Nat} : A5 (va_cpy g g2 a b n) := fun j => by
  unfold va_cpy
  split
  · exact h _
  · exact h2 j
theorem A5.z : A5 (fun _ => 0) := fun _ => ⟨0, by omega, nI_0.symm⟩
/-- the bits of a level that is filled from g -/
def bw (g : Nat → Int32) (n s : Nat) : Nat → Bool := fun j => decide (j < n) && tb (vl g j) s
theorem wf_step {w : Nat → Int32} {g : Nat → Int32} {i n sh : Nat} (hi : i < n) (hn : n ≤ 4000) (hg : A5 g) (hs : sh < 32) (hw : ∀ q b, q < 126 → b < 32 → bt (w q) b = (decide (32 * q + b < i) && tb (vl g (32 * q + b)) sh)) :
    ∀ q b, q < 126 → b < 32 → bt (upd w (i / 32) (w (i / 32) ||| (nI (bN (tb (vl g i) sh)) <<< (nI (i % 32) &&& 31))) q) b = (decide (32 * q + b < i + 1) && tb (vl g (32 * q + b)) sh) := by
  intro q b hq hb
  unfold upd
  by_cases h : q = i / 32
  · rw [if_pos h, b_or, hw _ _ (by omega) hb, b_shl _ (by omega) _ hb, ← h]
    by_cases h2 : i % 32 ≤ b
    · rw [bt_1 _ (by omega), decide_eq_true h2, Bool.true_and]
      by_cases h3 : b = i % 32
      · have e : 32 * q + b = i := by omega
        rw [e, decide_eq_false (show ¬ i < i by omega), decide_eq_true (show i < i + 1 by omega), decide_eq_true (show b - i % 32 = 0 by omega)]
        simp
      · rw [decide_eq_false (show ¬ b - i % 32 = 0 by omega), Bool.false_and, Bool.or_false, decide_eq_false (show ¬ 32 * q + b < i by omega), decide_eq_false (show ¬ 32 * q + b < i + 1 by omega)]
    · rw [decide_eq_false h2, Bool.false_and, Bool.or_false, decide_eq_true (show 32 * q + b < i by omega), decide_eq_true (show 32 * q + b < i + 1 by omega)]
  · rw [if_neg h, hw _ _ hq hb]
    congr 1
    exact decide_eq_decide.mpr (by omega)
theorem rk_step {w : Nat → Int32} {bb : Nat → Bool} {q M : Nat} (hq : q < 126) (hw : ∀ q b, q < 126 → b < 32 → bt (w q) b = bb (32 * q + b)) (eM : w q = nI M) : cn bb (32 * q) + cn (bt (nI M)) 32 = cn bb (32 * (q + 1)) := by
  have h := cn_shift bb (32 * q) 32
  rw [show 32 * (q + 1) = 32 * q + 32 by omega, h]
  congr 1
  exact cn_congr (fun i hi => by rw [← eM, hw _ _ hq hi])
theorem bw_end {g : Nat → Int32} {n s : Nat} (hn : n ≤ 4000) : cn (bw g n s) 4032 = cn (bw g n s) n := by
  have h := cn_shift (bw g n s) n (4032 - n)
  rw [show n + (4032 - n) = 4032 by omega] at h
  have h0 : cn (fun i => bw g n s (n + i)) (4032 - n) = 0 := cn_none (fun i _ => by unfold bw; rw [decide_eq_false (by omega), Bool.false_and])
  omega
/-- zeros in front, the ones laid aside: at place i -/
def ZF (g0 : Nat → Int32) (bb : Nat → Bool) (i : Nat) (g h : Nat → Int32) : Prop := (∀ j, i ≤ j → g j = g0 j) ∧ ∀ t, t < i → (bb t = false → g (t - cn bb t) = g0 t) ∧ (bb t = true → h (cn bb t) = g0 t)
theorem ZF.z {g0 g h : Nat → Int32} {bb : Nat → Bool} {i : Nat} (hz : ZF g0 bb i g h) (hb : bb i = false) : ZF g0 bb (i + 1) (upd g (i - cn bb i) (g0 i)) h := by
  have hi := cn_le bb i
  refine ⟨fun j hj => ?_, fun t ht => ⟨fun q => ?_, fun q => ?_⟩⟩
  · unfold upd; rw [if_neg (by omega)]; exact hz.1 j (by omega)
  · rcases Nat.lt_or_ge t i with c | c
    · have h1 := dn_mono bb 0 false (show t + 1 ≤ i by omega)
      rw [dn_s, q, if_pos (by rfl), dn_0, dn_0] at h1
      unfold upd; rw [if_neg (by omega)]; exact (hz.2 t c).1 q
    · obtain rfl : t = i := by omega
      unfold upd; rw [if_pos rfl]
  · exact (hz.2 t (Nat.lt_of_le_of_ne (by omega) (fun q9 => by rw [q9, hb] at q; cases q))).2 q
theorem ZF.o {g0 g h : Nat → Int32} {bb : Nat → Bool} {i : Nat} (hz : ZF g0 bb i g h) (hb : bb i = true) : ZF g0 bb (i + 1) g (upd h (cn bb i) (g0 i)) := by
  refine ⟨fun j hj => hz.1 j (by omega), fun t ht => ⟨fun q => ?_, fun q => ?_⟩⟩
  · exact (hz.2 t (Nat.lt_of_le_of_ne (by omega) (fun q9 => by rw [q9, hb] at q; cases q))).1 q
  · rcases Nat.lt_or_ge t i with c | c
    · have h1 := cn_mono bb (show t + 1 ≤ i by omega)
      rw [cn_t q] at h1
      unfold upd; rw [if_neg (by omega)]; exact (hz.2 t c).2 q
    · obtain rfl : t = i := by omega
      unfold upd; rw [if_pos rfl]
theorem ZF.e {g0 g h : Nat → Int32} {bb : Nat → Bool} {n : Nat} (hz : ZF g0 bb n g h) (h0 : A5 g0) : PT (vl g0) (vl (va_cpy h g 0 (n - cn bb n) (cn bb n))) bb n := by
  intro j hj
  have a1 := cn_le bb n
  have a2 := cn_le bb j
  have key : va_cpy h g 0 (n - cn bb n) (cn bb n) (dn bb n (bb j) j) = g0 j := by
    cases hb : bb j
    · rw [dn_0]
      have h1 := dn_mono bb 0 false (show j + 1 ≤ n by omega)
      rw [dn_s, hb, if_pos (by rfl), dn_0, dn_0] at h1
      unfold va_cpy
      rw [if_neg (by omega)]
      exact (hz.2 j hj).1 hb
    · rw [dn_1]
      have h1 := cn_mono bb (show j + 1 ≤ n by omega)
      rw [cn_t hb] at h1
      unfold va_cpy
      rw [if_pos (by omega), show 0 + (n - cn bb n + cn bb j - (n - cn bb n)) = cn bb j by omega]
      exact (hz.2 j hj).2 hb
  show (va_cpy h g 0 (n - cn bb n) (cn bb n) _).toNatClampNeg = _
  rw [key]; rfl
section
variable {p : Program} {l : Launch} {e : Env} {R : Room} {s : State} {m : MethodId} {args : Array Value} {below : List Frame} {meth : Method} {c : Code} {cells slots : Nat} {Q : State → Prop} {A : Nat → Prop} {g : JFrame}
theorem st0 (kk : ∀ (H : Heap) (locs : List Loc), va_S A s.heap H locs → H = s.heap → W p l e R s m args below meth c H locs cells slots Q g) : W p l e R s m args below meth c s.heap [] cells slots Q g := kk s.heap [] va_S.rf rfl
end
theorem bz_t {x : Bool} (h : ¬ nI (bN x) = 0) : x = true := by
  cases x
  · exact absurd nI_0 h
  · rfl
theorem bz_f {x : Bool} (h : nI (bN x) = 0) : x = false := by
  cases x
  · rfl
  · exact absurd h (by decide +kernel)
theorem LV.cg {cI : ClassId} {ad : Nat → Nat} {ce ce1 : Nat → va_E} {k : Nat} {bb : Nat → Bool} {n : Nat} (h : LV cI ad ce k bb n) (h0 : ce1 k = ce k) (h1 : ce1 (k + 1) = ce (k + 1)) (h2 : ce1 (k + 2) = ce (k + 2)) : LV cI ad ce1 k bb n := by
  obtain ⟨w, r, a0, a1, a2, a3⟩ := h
  exact ⟨w, r, h0.trans a0, h1.trans a1, h2.trans a2, a3⟩
