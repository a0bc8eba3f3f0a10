/-! what the questions ask of a part, and how the nine levels answer -/
def lq (f : Nat → Nat) (y u v : Nat) : Nat := ct (fun i => decide (f i < y)) u v
def eq (f : Nat → Nat) (y u v : Nat) : Nat := ct (fun i => decide (f i = y)) u v
theorem lq_0 (f : Nat → Nat) {u v : Nat} (h : u ≤ v) : lq f 0 u v = 0 := ct_none h (fun i _ => by simp)
theorem lq_s (f : Nat → Nat) (y : Nat) {u v : Nat} (h : u ≤ v) : lq f (y + 1) u v = lq f y u v + eq f y u v :=
  ct_or h (fun i _ => by
    constructor
    · rcases Nat.lt_trichotomy (f i) y with q | q | q
      · simp [q, show f i < y + 1 by omega]
      · simp [q]
      · simp [show ¬ f i < y by omega, show ¬ f i = y by omega, show ¬ f i < y + 1 by omega]
    · rcases Nat.lt_trichotomy (f i) y with q | q | q
      · simp [show ¬ f i = y by omega]
      · simp [q]
      · simp [show ¬ f i < y by omega])
theorem lq_512 {f : Nat → Nat} {u v n : Nat} (hf : ∀ i, i < n → f i < 512) (h : u ≤ v) (hv : v ≤ n) : lq f 512 u v = v - u := ct_all h (fun i hi => decide_eq_true (hf i (by omega)))
theorem lq_mono (f : Nat → Nat) {x y u v : Nat} (h : u ≤ v) (hxy : x ≤ y) : lq f x u v ≤ lq f y u v := by
  induction y with
  | zero => rw [Nat.le_zero.mp hxy]; exact Nat.le_refl _
  | succ y ih =>
    rcases Nat.lt_or_ge x (y + 1) with q | q
    · have := ih (by omega); rw [lq_s f y h]; omega
    · rw [show x = y + 1 by omega]; exact Nat.le_refl _
theorem lq_le (f : Nat → Nat) (y : Nat) {u v : Nat} (h : u ≤ v) : lq f y u v ≤ v - u := ct_le _ h
theorem eq_le (f : Nat → Nat) (y : Nat) {u v : Nat} (h : u ≤ v) : eq f y u v ≤ v - u := ct_le _ h
theorem eq_ex {f : Nat → Nat} {y u v : Nat} (h : 0 < eq f y u v) : ∃ i, u ≤ i ∧ i < v ∧ f i = y := by
  unfold eq ct at h
  rcases Nat.lt_or_ge u v with huv | huv
  · have h1 := cn_shift (fun i => decide (f i = y)) u (v - u)
    rw [show u + (v - u) = v by omega] at h1
    obtain ⟨i, hi, hp⟩ := cn_ex (p := fun i => decide (f (u + i) = y)) (n := v - u) (by omega)
    exact ⟨u + i, by omega, by omega, of_decide_eq_true hp⟩
  · have := cn_mono (fun i => decide (f i = y)) huv
    omega
theorem eq_in {f : Nat → Nat} {y u v i : Nat} (h1 : u ≤ i) (h2 : i < v) (h : f i = y) : 0 < eq f y u v := by
  have a := cn_mono (fun i => decide (f i = y)) h1
  have b := cn_mono (fun i => decide (f i = y)) (show i + 1 ≤ v by omega)
  rw [cn_t (by simp [h])] at b
  unfold eq ct; omega
/-- y is the k-th least of the part -/
def KT (f : Nat → Nat) (u v k y : Nat) : Prop := lq f y u v ≤ k ∧ k < lq f y u v + eq f y u v
theorem KT.one {f : Nat → Nat} {u v k y z : Nat} (h : u ≤ v) (hy : KT f u v k y) (hz : KT f u v k z) : y = z := by
  obtain ⟨a1, a2⟩ := hy
  obtain ⟨b1, b2⟩ := hz
  rw [← lq_s f _ h] at a2 b2
  rcases Nat.lt_trichotomy y z with q | q | q
  · have := lq_mono f h (show y + 1 ≤ z by omega); omega
  · exact q
  · have := lq_mono f h (show z + 1 ≤ y by omega); omega
theorem KT.lt {f : Nat → Nat} {u v k y n : Nat} (hf : ∀ i, i < n → f i < 512) (hv : v ≤ n) (h : KT f u v k y) : y < 512 := by
  obtain ⟨i, h1, h2, h3⟩ := eq_ex (f := f) (y := y) (u := u) (v := v) (by have := h.1; have := h.2; omega)
  rw [← h3]; exact hf i (by omega)
section Levels
variable {f : Nat → Nat} {n : Nat} {os : Nat → Nat → Nat}
theorem pq_ct (hw : WM f n os) (hf : ∀ i, i < n → f i < 512) {d : Nat} (hd : d ≤ 9) {y : Nat} (hy : y < 2 ^ d) {u v : Nat} (huv : u ≤ v) (hv : v ≤ n) : pq os n d y v - pq os n d y u = ct (fun i => decide (tp d (f i) = y)) u v := by
  have h1 := pq_len hw hf hd hy hv
  have h2 := pq_len hw hf hd hy (v := u) (by omega)
  have h3 := cn_mono (fun i => decide (tp d (f i) = y)) huv
  unfold ct; omega
/-- the k-th least has the upper bits y at depth d -/
def GK (f : Nat → Nat) (u v k d y : Nat) : Prop := ct (fun i => decide (tp d (f i) < y)) u v ≤ k ∧ k < ct (fun i => decide (tp d (f i) < y)) u v + ct (fun i => decide (tp d (f i) = y)) u v
theorem gk_lt0 {d : Nat} (hd : d < 9) (y : Nat) {u v : Nat} (h : u ≤ v) : ct (fun i => decide (tp (d + 1) (f i) < 2 * y)) u v = ct (fun i => decide (tp d (f i) < y)) u v :=
  ct_congr h (fun i _ => by rw [tp_s hd]; apply decide_eq_decide.mpr; split <;> omega)
theorem gk_lt1 {d : Nat} (hd : d < 9) (y : Nat) {u v : Nat} (h : u ≤ v) : ct (fun i => decide (tp (d + 1) (f i) < 2 * y + 1)) u v = ct (fun i => decide (tp d (f i) < y)) u v + ct (fun i => decide (tp (d + 1) (f i) = 2 * y)) u v :=
  ct_or h (fun i _ => by
    rw [tp_s hd]
    generalize tp d (f i) = t
    obtain ⟨z, hz, h01⟩ : ∃ z : Nat, (if tb (f i) (8 - d) = true then 1 else 0) = z ∧ z ≤ 1 := ⟨_, rfl, by split <;> omega⟩
    rw [hz]
    constructor
    · rw [Bool.eq_iff_iff, Bool.or_eq_true, decide_eq_true_eq, decide_eq_true_eq, decide_eq_true_eq]; omega
    · rw [← Bool.not_eq_true, Bool.and_eq_true, decide_eq_true_eq, decide_eq_true_eq]; omega)
theorem gk_sp {d : Nat} (hd : d < 9) (y : Nat) {u v : Nat} (h : u ≤ v) : ct (fun i => decide (tp d (f i) = y)) u v = ct (fun i => decide (tp (d + 1) (f i) = 2 * y)) u v + ct (fun i => decide (tp (d + 1) (f i) = 2 * y + 1)) u v :=
  ct_or h (fun i _ => by
    rw [tp_s hd]
    generalize tp d (f i) = t
    obtain ⟨z, hz, h01⟩ : ∃ z : Nat, (if tb (f i) (8 - d) = true then 1 else 0) = z ∧ z ≤ 1 := ⟨_, rfl, by split <;> omega⟩
    rw [hz]
    constructor
    · rw [Bool.eq_iff_iff, Bool.or_eq_true, decide_eq_true_eq, decide_eq_true_eq, decide_eq_true_eq]; omega
    · rw [← Bool.not_eq_true, Bool.and_eq_true, decide_eq_true_eq, decide_eq_true_eq]; omega)
theorem gk_0 (hf : ∀ i, i < n → f i < 512) {u v k : Nat} (h : u ≤ v) (hv : v ≤ n) (hk : k < v - u) : GK f u v k 0 0 := by
  have h1 : ct (fun i => decide (tp 0 (f i) < 0)) u v = 0 := ct_none h (fun i _ => by simp)
  have h2 : ct (fun i => decide (tp 0 (f i) = 0)) u v = v - u := ct_all h (fun i hi => decide_eq_true (tp_0 (hf i (by omega))))
  unfold GK; omega
theorem gk_z {u v k d y : Nat} (hd : d < 9) (h : u ≤ v) (g : GK f u v k d y) (hz : k - ct (fun i => decide (tp d (f i) < y)) u v < ct (fun i => decide (tp (d + 1) (f i) = 2 * y)) u v) : GK f u v k (d + 1) (2 * y) := by
  unfold GK at g ⊢; rw [gk_lt0 hd y h]; omega
theorem gk_o {u v k d y : Nat} (hd : d < 9) (h : u ≤ v) (g : GK f u v k d y) (hz : ct (fun i => decide (tp (d + 1) (f i) = 2 * y)) u v ≤ k - ct (fun i => decide (tp d (f i) < y)) u v) : GK f u v k (d + 1) (2 * y + 1) := by
  have := gk_sp (f := f) hd y h
  unfold GK at g ⊢; rw [gk_lt1 hd y h]; omega
theorem gk_9 {u v k y : Nat} (g : GK f u v k 9 y) : KT f u v k y := by
  unfold GK at g; simp only [tp_9] at g; exact g
theorem pq_9 (hw : WM f n os) (hf : ∀ i, i < n → f i < 512) {y : Nat} (hy : y < 512) {u v : Nat} (huv : u ≤ v) (hv : v ≤ n) : pq os n 9 y v - pq os n 9 y u = eq f y u v := by
  have h := pq_ct hw hf (d := 9) (Nat.le_refl 9) (y := y) hy huv hv
  simp only [tp_9] at h
  exact h
/-- how many are below x, by the upper d bits -/
def bl (f : Nat → Nat) (x u v d : Nat) : Nat := ct (fun i => decide (tp d (f i) < tp d x)) u v
theorem bl_0 (hf : ∀ i, i < n → f i < 512) {x u v : Nat} (hx : x < 512) (h : u ≤ v) (hv : v ≤ n) : bl f x u v 0 = 0 :=
  ct_none h (fun i hi => by rw [tp_0 hx]; simp)
theorem bl_9 (x u v : Nat) : bl f x u v 9 = lq f x u v := by unfold bl lq; simp only [tp_9]
theorem bl_z {x u v d : Nat} (hd : d < 9) (h : u ≤ v) (hb : tb x (8 - d) = false) : bl f x u v (d + 1) = bl f x u v d := by
  unfold bl; rw [tp_s hd x, hb, if_neg (by decide), Nat.add_zero]; exact gk_lt0 hd _ h
theorem bl_o {x u v d : Nat} (hd : d < 9) (h : u ≤ v) (hb : tb x (8 - d) = true) : bl f x u v (d + 1) = bl f x u v d + ct (fun i => decide (tp (d + 1) (f i) = 2 * tp d x)) u v := by
  unfold bl; rw [tp_s hd x, hb, if_pos rfl]; exact gk_lt1 hd _ h
theorem bl_le {x u v d : Nat} (h : u ≤ v) : bl f x u v d ≤ v - u := ct_le _ h
theorem tp_lt {d v : Nat} (hd : d ≤ 9) (hv : v < 512) : tp d v < 2 ^ d := by
  unfold tp
  rw [Nat.div_lt_iff_lt_mul (Nat.two_pow_pos _), ← Nat.pow_add, show d + (9 - d) = 9 by omega]
  exact hv
theorem pq_x {x d p : Nat} (hd : d < 9) : pq os n (d + 1) (tp (d + 1) x) p = dn (bs os n d) n (tb x (8 - d)) (pq os n d (tp d x) p) := by
  rw [tp_s hd]; exact pq_s os n d _ p _
/-- the bit that the k-th level has where the place i comes to -/
theorem bs_at (hw : WM f n os) (hf : ∀ i, i < n → f i < 512) {d : Nat} (hd : d ≤ 9) {i : Nat} (hi : i < n) : pq os n d (tp d (f i)) i < n ∧ bs os n d (pq os n d (tp d (f i)) i) = tb (f i) (8 - d) := by
  have h1 := pq_at hw hf hd hi
  have h2 : pq os n d (tp d (f i)) i < n := by
    have a := pq_len hw hf hd (tp_lt hd (hf i hi)) (v := i) (by omega)
    have b := pq_len hw hf hd (tp_lt hd (hf i hi)) (v := i + 1) (by omega)
    have c := pq_le os d (tp d (f i)) (show i + 1 ≤ n by omega)
    rw [cn_t (by simp)] at b
    omega
  exact ⟨h2, by unfold bs; rw [h1, decide_eq_true h2, Bool.true_and]⟩
end Levels
/-- the binary search upward: the last place that comes no further -/
theorem up_last {bb : Nat → Bool} {n : Nat} {x : Bool} {j q : Nat} (hj : bb j = x) (h1 : dn bb n x q ≤ dn bb n x j) (h2 : ∀ r, q < r → r < n → dn bb n x j < dn bb n x r) (hjn : j < n) : q = j := by
  rcases Nat.lt_trichotomy q j with c | c | c
  · have := h2 j c hjn; omega
  · exact c
  · have a := dn_mono bb n x (show j + 1 ≤ q by omega)
    rw [dn_s, hj, if_pos (by simp)] at a
    omega
