/-! pictures of the objects, and small rows for the reads -/
abbrev bN (x : Bool) : Nat := if x = true then 1 else 0
theorem bN_lt (x : Bool) : bN x < 2 := by unfold bN; split <;> omega
/-- a level at cell k, its words and ranks behind it: the bits bb, n long -/
def LV (cI : ClassId) (ad : Nat → Nat) (ce : Nat → va_E) (k : Nat) (bb : Nat → Bool) (n : Nat) : Prop := ∃ (w r : Nat → Int32), ce k = .inr (0, [.ref (ad (k + 1)), .ref (ad (k + 2)), .int (nI n), .int (nI (n - cn bb n))]) ∧ ce (k + 1) = .inl (cI, 126, .inl w) ∧ ce (k + 2) = .inl (cI, 126, .inl r) ∧ (∀ q i, q < 126 → i < 32 → bt (w q) i = bb (32 * q + i)) ∧ (∀ q, q < 126 → r q = nI (cn bb (32 * q))) ∧ n ≤ 4000
/-- the tree at cell 2: nine levels from cell 6 on -/
def TR (cI cO : ClassId) (ad : Nat → Nat) (ce : Nat → va_E) (os : Nat → Nat → Nat) (n : Nat) : Prop := ce 2 = .inr (1, [.ref (ad 3), .ref (ad 4), .ref (ad 5), .int (nI n)]) ∧ (∃ lv : Nat → Option Nat, ce 3 = .inl (cO, 9, .inr (.inr (.inr (.inr lv)))) ∧ ∀ d, d < 9 → lv d = some (ad (6 + 3 * d))) ∧ (∀ d, d < 9 → LV cI ad ce (6 + 3 * d) (bs os n d) n) ∧ n ≤ 4000
theorem pw32 {a : Nat} (h : a < 32) : 1 * 2 ^ a < 2 ^ 32 := by rw [Nat.one_mul]; exact Nat.pow_lt_pow_of_lt (by omega) h
theorem bt_mask {a i : Nat} (hi : i < 32) : bt (nI (1 * 2 ^ a - 1)) i = decide (i < a) := by rw [bt_nI hi, Nat.one_mul, Nat.testBit_two_pow_sub_one]
theorem ob_sum {w : Nat → Int32} {bb : Nat → Bool} {p M : Nat} (hp : p ≤ 4000) (hw : ∀ q i, q < 126 → i < 32 → bt (w q) i = bb (32 * q + i)) (eM : w (p / 32) &&& nI (1 * 2 ^ (p % 32) - 1) = nI M) : cn bb (32 * (p / 32)) + cn (bt (nI M)) 32 = cn bb p := by
  have h1 : ∀ i, i < 32 → bt (nI M) i = (bb (32 * (p / 32) + i) && decide (i < p % 32)) := fun i hi => by rw [← eM, b_and, hw _ _ (by omega) hi, bt_mask hi]
  have h2 := cn_shift (bt (nI M)) (p % 32) (32 - p % 32)
  rw [show p % 32 + (32 - p % 32) = 32 by omega] at h2
  have h3 : cn (bt (nI M)) (p % 32) = cn (fun i => bb (32 * (p / 32) + i)) (p % 32) := cn_congr (fun i hi => by rw [h1 i (by omega), decide_eq_true hi, Bool.and_true])
  have h4 : cn (fun i => bt (nI M) (p % 32 + i)) (32 - p % 32) = 0 := cn_none (fun i hi => by rw [h1 _ (by omega), decide_eq_false (by omega), Bool.and_false])
  have h5 := cn_shift bb (32 * (p / 32)) (p % 32)
  rw [show 32 * (p / 32) + p % 32 = p by omega] at h5
  omega
theorem bt_1 (y : Bool) {i : Nat} (hi : i < 32) : bt (nI (bN y)) i = (decide (i = 0) && y) := by
  rw [bt_nI hi]
  cases y
  · show Nat.testBit 0 i = _
    rw [Nat.zero_testBit, Bool.and_false]
  · show Nat.testBit 1 i = _
    rw [Bool.and_true]
    exact (by decide +kernel : ∀ i, i < 32 → Nat.testBit 1 i = decide (i = 0)) i hi
theorem ba_bit {x : Int32} {a : Nat} (ha : a < 32) {y : Bool} (hy : bt x a = y) : (x.toUInt32 >>> ((nI a).toUInt32 &&& Int32.toUInt32 31)).toInt32 &&& nI 1 = nI (bN y) := by
  apply b_ext
  intro i hi
  rw [b_and, b_ushr a ha, bt_1 y hi, show nI 1 = nI (bN true) from rfl, bt_1 true hi, Bool.and_true]
  by_cases h : i = 0
  · rw [h, Nat.add_zero, hy]; simp
  · simp [h]
theorem sh1 {x s : Nat} (hx : x < 2147483648) (hs : s < 32) : (nI x >>> (nI s &&& 31)) &&& nI 1 = nI (bN (tb x s)) := by
  rw [pk_shrN hx _ s (s_l s hs), pk_andN (Nat.lt_of_le_of_lt (Nat.div_le_self _ _) (by omega)) 1 (by decide +kernel)]
  congr 1
  unfold tb bN
  show x / 2 ^ s % 2 = _
  rcases Nat.mod_two_eq_zero_or_one (x / 2 ^ s) with h | h <;> simp [h]
theorem hf2 (j : Nat) : 2 ^ (j + 1) / 2 = 2 ^ j := by rw [Nat.pow_succ]; omega
theorem bx_f {x : Bool} (h : ¬ nI (bN x) = nI 1) : x = false := by
  cases x
  · rfl
  · exact absurd rfl h
theorem bx_t {x : Bool} (h : nI (bN x) = nI 1) : x = true := by
  cases x
  · exact absurd h (by decide +kernel)
  · rfl
theorem LV.o {cI : ClassId} {ad : Nat → Nat} {ce : Nat → va_E} {k : Nat} {bb : Nat → Bool} {n : Nat} (h : LV cI ad ce k bb n) : ce k = .inr (0, [.ref (ad (k + 1)), .ref (ad (k + 2)), .int (nI n), .int (nI (n - cn bb n))]) := by
  obtain ⟨w, r, h0, -⟩ := h
  exact h0
theorem pq_e (os : Nat → Nat → Nat) (n d y q : Nat) : pq os n (d + 1) (2 * y) q = dn (bs os n d) n false (pq os n d y q) := pq_s os n d y q false
theorem pq_o (os : Nat → Nat → Nat) (n d y q : Nat) : pq os n (d + 1) (2 * y + 1) q = dn (bs os n d) n true (pq os n d y q) := pq_s os n d y q true
theorem zc {f : Nat → Nat} {n : Nat} {os : Nat → Nat → Nat} (hw : WM f n os) (hf : ∀ i, i < n → f i < 512) {d : Nat} (hd : d < 9) {y : Nat} (hy : y < 2 ^ d) {u v : Nat} (huv : u ≤ v) (hv : v ≤ n) : dn (bs os n d) n false (pq os n d y v) - dn (bs os n d) n false (pq os n d y u) = ct (fun i => decide (tp (d + 1) (f i) = 2 * y)) u v := by
  rw [← pq_e, ← pq_e]
  exact pq_ct hw hf (by omega) (by rw [Nat.pow_succ]; omega) huv hv
abbrev gl (f : Nat → Nat) (u v d y : Nat) : Nat := ct (fun i => decide (tp d (f i) < y)) u v
theorem gl0 (f : Nat → Nat) {u v d : Nat} (h : u ≤ v) : gl f u v d 0 = 0 := ct_none h (fun i _ => by simp)
theorem pl_sum {f : Nat → Nat} {n : Nat} {os : Nat → Nat → Nat} (hw : WM f n os) (hf : ∀ i, i < n → f i < 512) {x i : Nat} (hx : x < 512) (hi : i < n) : pq os n 9 x 0 + cn (fun j => decide (f j = x)) i = pq os n 9 x i := by
  have h := pq_len hw hf (d := 9) (Nat.le_refl 9) (y := x) hx (v := i) (by omega)
  simp only [tp_9] at h
  omega
theorem gl_e {f : Nat → Nat} {u v d : Nat} (hd : d < 9) (y : Nat) (h : u ≤ v) : gl f u v d y = gl f u v (d + 1) (2 * y) := (gk_lt0 hd y h).symm
