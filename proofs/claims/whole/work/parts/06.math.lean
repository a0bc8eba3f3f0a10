/-! the mathematics: counts, one level's road down, nine levels -/
/-- how many i below n have p i -/
def cn (p : Nat → Bool) : Nat → Nat
  | 0 => 0
  | n + 1 => cn p n + (if p n = true then 1 else 0)
theorem cn_0 (p : Nat → Bool) : cn p 0 = 0 := rfl
theorem cn_s (p : Nat → Bool) (n : Nat) : cn p (n + 1) = cn p n + (if p n = true then 1 else 0) := rfl
theorem cn_t {p : Nat → Bool} {n : Nat} (h : p n = true) : cn p (n + 1) = cn p n + 1 := by rw [cn_s, if_pos h]
theorem cn_f {p : Nat → Bool} {n : Nat} (h : p n = false) : cn p (n + 1) = cn p n := by rw [cn_s, if_neg (by rw [h]; decide)]; rfl
theorem cn_le (p : Nat → Bool) (n : Nat) : cn p n ≤ n := by
  induction n with
  | zero => exact Nat.le_refl 0
  | succ n ih => rw [cn_s]; split <;> omega
theorem cn_step (p : Nat → Bool) (a d : Nat) : cn p a ≤ cn p (a + d) ∧ cn p (a + d) ≤ cn p a + d := by
  induction d with
  | zero => exact ⟨Nat.le_refl _, Nat.le_refl _⟩
  | succ d ih => rw [← Nat.add_assoc, cn_s]; split <;> omega
theorem cn_mono (p : Nat → Bool) {a b : Nat} (h : a ≤ b) : cn p a ≤ cn p b := by
  have := (cn_step p a (b - a)).1
  rwa [Nat.add_sub_cancel' h] at this
theorem cn_gap (p : Nat → Bool) {a b : Nat} (h : a ≤ b) : cn p b ≤ cn p a + (b - a) := by
  have := (cn_step p a (b - a)).2
  rwa [Nat.add_sub_cancel' h] at this
theorem cn_congr {p q : Nat → Bool} {n : Nat} (h : ∀ i, i < n → p i = q i) : cn p n = cn q n := by
  induction n with
  | zero => rfl
  | succ n ih => rw [cn_s, cn_s, ih (fun i hi => h i (by omega)), h n (by omega)]
theorem cn_all {p : Nat → Bool} {n : Nat} (h : ∀ i, i < n → p i = true) : cn p n = n := by
  induction n with
  | zero => rfl
  | succ n ih => rw [cn_t (h n (by omega)), ih (fun i hi => h i (by omega))]
theorem cn_none {p : Nat → Bool} {n : Nat} (h : ∀ i, i < n → p i = false) : cn p n = 0 := by
  induction n with
  | zero => rfl
  | succ n ih => rw [cn_f (h n (by omega)), ih (fun i hi => h i (by omega))]
theorem cn_shift (p : Nat → Bool) (a n : Nat) : cn p (a + n) = cn p a + cn (fun i => p (a + i)) n := by
  induction n with
  | zero => rfl
  | succ n ih => rw [← Nat.add_assoc, cn_s, cn_s, ih]; omega
/-- two that never hold together -/
theorem cn_or {p q r : Nat → Bool} {n : Nat} (h : ∀ i, i < n → r i = (p i || q i) ∧ (p i && q i) = false) : cn r n = cn p n + cn q n := by
  induction n with
  | zero => rfl
  | succ n ih =>
    obtain ⟨h1, h2⟩ := h n (by omega)
    rw [cn_s, cn_s, cn_s, ih (fun i hi => h i (by omega)), h1]
    cases hp : p n <;> cases hq : q n <;> simp [hp, hq] at h2 ⊢ <;> omega
theorem cn_imp {p q : Nat → Bool} {n : Nat} (h : ∀ i, i < n → p i = true → q i = true) : cn p n ≤ cn q n := by
  induction n with
  | zero => exact Nat.le_refl 0
  | succ n ih =>
    have := ih (fun i hi => h i (by omega))
    have h1 := h n (by omega)
    rw [cn_s, cn_s]
    cases hp : p n <;> cases hq : q n <;> simp_all <;> omega
theorem cn_pos {p : Nat → Bool} {n i : Nat} (hi : i < n) (h : p i = true) : 0 < cn p n := by
  have h1 := cn_mono p (show i + 1 ≤ n by omega)
  rw [cn_t h] at h1
  omega
theorem cn_ex {p : Nat → Bool} {n : Nat} (h : 0 < cn p n) : ∃ i, i < n ∧ p i = true := by
  induction n with
  | zero => exact absurd h (by rw [cn_0]; omega)
  | succ n ih =>
    by_cases hp : p n = true
    · exact ⟨n, by omega, hp⟩
    · rw [cn_f (by simpa using hp)] at h
      obtain ⟨i, hi, hpi⟩ := ih h
      exact ⟨i, by omega, hpi⟩
/-- the k-th place that has p -/
theorem cn_kth {p : Nat → Bool} {n k : Nat} (h : k < cn p n) : ∃ i, i < n ∧ p i = true ∧ cn p i = k := by
  induction n with
  | zero => exact absurd h (by rw [cn_0]; omega)
  | succ n ih =>
    by_cases hp : p n = true
    · rw [cn_t hp] at h
      by_cases hk : k < cn p n
      · obtain ⟨i, hi, h1, h2⟩ := ih hk
        exact ⟨i, by omega, h1, h2⟩
      · exact ⟨n, by omega, hp, by omega⟩
    · rw [cn_f (by simpa using hp)] at h
      obtain ⟨i, hi, h1, h2⟩ := ih h
      exact ⟨i, by omega, h1, h2⟩
theorem cn_kth1 {p : Nat → Bool} {i j : Nat} (hi : p i = true) (hj : p j = true) (h : cn p i = cn p j) : i = j := by
  rcases Nat.lt_trichotomy i j with q | q | q
  · have := cn_mono p (show i + 1 ≤ j by omega); rw [cn_t hi] at this; omega
  · exact q
  · have := cn_mono p (show j + 1 ≤ i by omega); rw [cn_t hj] at this; omega
/-- how many of the part u .. v have p -/
def ct (p : Nat → Bool) (u v : Nat) : Nat := cn p v - cn p u
theorem ct_le (p : Nat → Bool) {u v : Nat} (h : u ≤ v) : ct p u v ≤ v - u := by
  have := cn_gap p h
  unfold ct; omega
theorem ct_0 (p : Nat → Bool) (u : Nat) : ct p u u = 0 := Nat.sub_self _
theorem ct_s (p : Nat → Bool) {u v : Nat} (h : u ≤ v) : ct p u (v + 1) = ct p u v + (if p v = true then 1 else 0) := by
  have := cn_mono p h
  unfold ct; rw [cn_s]; split <;> omega
theorem ct_congr {p q : Nat → Bool} {u v : Nat} (huv : u ≤ v) (h : ∀ i, i < v → p i = q i) : ct p u v = ct q u v := by
  unfold ct; rw [cn_congr h, cn_congr (fun i hi => h i (by omega))]
theorem ct_or {p q r : Nat → Bool} {u v : Nat} (huv : u ≤ v) (h : ∀ i, i < v → r i = (p i || q i) ∧ (p i && q i) = false) : ct r u v = ct p u v + ct q u v := by
  have h1 := cn_mono p huv
  have h2 := cn_mono q huv
  unfold ct; rw [cn_or h, cn_or (fun i hi => h i (by omega))]; omega
theorem ct_all {p : Nat → Bool} {u v : Nat} (huv : u ≤ v) (h : ∀ i, i < v → p i = true) : ct p u v = v - u := by
  unfold ct; rw [cn_all h, cn_all (fun i hi => h i (by omega))]
theorem ct_none {p : Nat → Bool} {u v : Nat} (huv : u ≤ v) (h : ∀ i, i < v → p i = false) : ct p u v = 0 := by
  unfold ct; rw [cn_none h, cn_none (fun i hi => h i (by omega))]
theorem ct_eq (p : Nat → Bool) {u v : Nat} (h : u ≤ v) : cn p u + ct p u v = cn p v := by
  have := cn_mono p h
  unfold ct; omega
/-- a level with bits bb, of length n: where the place j comes to below if its bit is x -/
def dn (bb : Nat → Bool) (n : Nat) (x : Bool) (j : Nat) : Nat := if x = true then (n - cn bb n) + cn bb j else j - cn bb j
theorem dn_s (bb : Nat → Bool) (n : Nat) (x : Bool) (j : Nat) : dn bb n x (j + 1) = dn bb n x j + (if (bb j == x) = true then 1 else 0) := by
  have h1 := cn_le bb j
  unfold dn; rw [cn_s]
  cases x <;> cases hb : bb j <;> simp <;> omega
theorem dn_le (bb : Nat → Bool) {n : Nat} (x : Bool) {j : Nat} (h : j ≤ n) : dn bb n x j ≤ n := by
  have h1 := cn_le bb n
  have h2 := cn_mono bb h
  have h3 := cn_le bb j
  unfold dn; split <;> omega
theorem dn_mono (bb : Nat → Bool) (n : Nat) (x : Bool) {i j : Nat} (h : i ≤ j) : dn bb n x i ≤ dn bb n x j := by
  induction j with
  | zero => rw [Nat.le_zero.mp h]; exact Nat.le_refl _
  | succ j ih =>
    rw [dn_s]
    rcases Nat.lt_or_ge i (j + 1) with q | q
    · have := ih (by omega); omega
    · rw [show i = j + 1 by omega, dn_s]; exact Nat.le_refl _
theorem dn_0 (bb : Nat → Bool) (n j : Nat) : dn bb n false j = j - cn bb j := rfl
theorem dn_1 (bb : Nat → Bool) (n j : Nat) : dn bb n true j = (n - cn bb n) + cn bb j := rfl
/-- the order below is the order above, zeros in front -/
def PT (o o' : Nat → Nat) (bb : Nat → Bool) (n : Nat) : Prop := ∀ j, j < n → o' (dn bb n (bb j) j) = o j
theorem pt_cn {o o' : Nat → Nat} {bb : Nat → Bool} {n : Nat} (hp : PT o o' bb n) (x : Bool) (P : Nat → Bool) : ∀ v, v ≤ n → cn (fun i => P (o' i)) (dn bb n x v) = cn (fun i => P (o' i)) (dn bb n x 0) + cn (fun j => (bb j == x) && P (o j)) v := by
  intro v
  induction v with
  | zero => intro _; rfl
  | succ v ih =>
    intro hv
    have h1 := ih (by omega)
    rw [dn_s, cn_s]
    by_cases hb : (bb v == x) = true
    · have hx : x = bb v := (beq_iff_eq.mp hb).symm
      have h2 : o' (dn bb n x v) = o v := by rw [hx]; exact hp v (by omega)
      rw [if_pos hb, cn_s, h1, h2, hb, Bool.true_and]; omega
    · rw [if_neg hb, Nat.add_zero, h1, show (bb v == x) = false by simpa using hb]; simp
/-- bit s of x -/
def tb (x s : Nat) : Bool := decide (x / 2 ^ s % 2 = 1)
/-- the upper d of nine bits -/
def tp (d v : Nat) : Nat := v / 2 ^ (9 - d)
theorem tp_s {d : Nat} (hd : d < 9) (v : Nat) : tp (d + 1) v = 2 * tp d v + (if tb v (8 - d) = true then 1 else 0) := by
  unfold tp tb
  rw [show 9 - (d + 1) = 8 - d by omega, show 9 - d = (8 - d) + 1 by omega, Nat.pow_succ, ← Nat.div_div_eq_div_mul]
  generalize v / 2 ^ (8 - d) = q
  rcases Nat.mod_two_eq_zero_or_one q with h | h <;> simp [h] <;> omega
theorem tp_0 {v : Nat} (h : v < 512) : tp 0 v = 0 := Nat.div_eq_of_lt h
theorem tp_9 (v : Nat) : tp 9 v = v := Nat.div_one v
/-- the bits of level d -/
def bs (os : Nat → Nat → Nat) (n d : Nat) : Nat → Bool := fun j => decide (j < n) && tb (os d j) (8 - d)
/-- the nine levels are of the row f, n long -/
def WM (f : Nat → Nat) (n : Nat) (os : Nat → Nat → Nat) : Prop := (∀ i, i < n → os 0 i = f i) ∧ ∀ d, d < 9 → PT (os d) (os (d + 1)) (bs os n d) n
/-- where the place p of the first level comes to at depth d, along the upper bits y -/
def pq (os : Nat → Nat → Nat) (n : Nat) : Nat → Nat → Nat → Nat
  | 0, _, p => p
  | d + 1, y, p => dn (bs os n d) n (decide (y % 2 = 1)) (pq os n d (y / 2) p)
theorem pq_0 (os : Nat → Nat → Nat) (n y p : Nat) : pq os n 0 y p = p := rfl
theorem pq_s (os : Nat → Nat → Nat) (n d y p : Nat) (x : Bool) : pq os n (d + 1) (2 * y + (if x = true then 1 else 0)) p = dn (bs os n d) n x (pq os n d y p) := by
  cases x
  · show dn _ n (decide ((2 * y + 0) % 2 = 1)) (pq os n d ((2 * y + 0) / 2) p) = _
    rw [show (2 * y + 0) / 2 = y by omega, show decide ((2 * y + 0) % 2 = 1) = false by simp]
  · show dn _ n (decide ((2 * y + 1) % 2 = 1)) (pq os n d ((2 * y + 1) / 2) p) = _
    rw [show (2 * y + 1) / 2 = y by omega, show decide ((2 * y + 1) % 2 = 1) = true by simp]
theorem pq_le (os : Nat → Nat → Nat) {n : Nat} (d y : Nat) {p : Nat} (h : p ≤ n) : pq os n d y p ≤ n := by
  induction d generalizing y with
  | zero => exact h
  | succ d ih => exact dn_le _ _ (ih _)
theorem pq_mono (os : Nat → Nat → Nat) (n d y : Nat) {p q : Nat} (h : p ≤ q) : pq os n d y p ≤ pq os n d y q := by
  induction d generalizing y with
  | zero => exact h
  | succ d ih => exact dn_mono _ _ _ (ih _)
theorem pq_cn {f : Nat → Nat} {n : Nat} {os : Nat → Nat → Nat} (hw : WM f n os) (hf : ∀ i, i < n → f i < 512) : ∀ (d : Nat), d ≤ 9 → ∀ (y : Nat), y < 2 ^ d → ∀ (P : Nat → Bool) (v : Nat), v ≤ n → cn (fun j => P (os d j)) (pq os n d y v) = cn (fun j => P (os d j)) (pq os n d y 0) + cn (fun i => decide (tp d (f i) = y) && P (f i)) v := by
  intro d
  induction d with
  | zero =>
    intro _ y hy P v hv
    rw [pq_0, pq_0, cn_0, Nat.zero_add]
    exact cn_congr (fun i hi => by rw [hw.1 i (by omega), tp_0 (hf i (by omega)), show y = 0 by simpa using hy]; simp)
  | succ d ih =>
    intro hd y hy P v hv
    have hy2 : y / 2 < 2 ^ d := by rw [Nat.pow_succ] at hy; omega
    generalize hx : decide (y % 2 = 1) = x
    have hyx : y = 2 * (y / 2) + (if x = true then 1 else 0) := by
      rw [← hx]
      rcases Nat.mod_two_eq_zero_or_one y with h | h <;> simp [h] <;> omega
    have e0 : ∀ w, w ≤ n → cn (fun j => P (os (d + 1) j)) (pq os n (d + 1) y w) = cn (fun j => P (os (d + 1) j)) (dn (bs os n d) n x 0) + cn (fun j => (tb (os d j) (8 - d) == x) && P (os d j)) (pq os n d (y / 2) w) := by
      intro w hw9
      have h1 := pt_cn (hw.2 d (by omega)) x P (pq os n d (y / 2) w) (pq_le os d _ hw9)
      have h2 : pq os n (d + 1) y w = dn (bs os n d) n x (pq os n d (y / 2) w) := by rw [← hx]; rfl
      rw [h2, h1]
      congr 1
      have h3 := pq_le os d (y / 2) hw9
      exact cn_congr (fun j hj => by unfold bs; rw [show decide (j < n) = true from decide_eq_true (by omega), Bool.true_and])
    have h4 := ih (by omega) (y / 2) hy2 (fun z => (tb z (8 - d) == x) && P z) v hv
    have h5 := ih (by omega) (y / 2) hy2 (fun z => (tb z (8 - d) == x) && P z) 0 (Nat.zero_le _)
    rw [e0 v hv, e0 0 (Nat.zero_le _), h4]
    have h6 : cn (fun i => decide (tp d (f i) = y / 2) && ((tb (f i) (8 - d) == x) && P (f i))) v = cn (fun i => decide (tp (d + 1) (f i) = y) && P (f i)) v := by
      refine cn_congr (fun i hi => ?_)
      rw [← Bool.and_assoc]
      congr 1
      rw [tp_s (by omega)]
      rw [show decide (2 * tp d (f i) + (if tb (f i) (8 - d) = true then 1 else 0) = y) = decide (2 * tp d (f i) + (if tb (f i) (8 - d) = true then 1 else 0) = 2 * (y / 2) + (if x = true then 1 else 0)) by rw [← hyx]]
      cases tb (f i) (8 - d) <;> cases x <;> simp <;> omega
    rw [h6]; omega
theorem pq_len {f : Nat → Nat} {n : Nat} {os : Nat → Nat → Nat} (hw : WM f n os) (hf : ∀ i, i < n → f i < 512) {d : Nat} (hd : d ≤ 9) {y : Nat} (hy : y < 2 ^ d) {v : Nat} (hv : v ≤ n) : pq os n d y v = pq os n d y 0 + cn (fun i => decide (tp d (f i) = y)) v := by
  have h := pq_cn hw hf d hd y hy (fun _ => true) v hv
  rw [cn_all (fun _ _ => rfl), cn_all (fun _ _ => rfl)] at h
  rw [h]; congr 1
  exact cn_congr (fun i _ => by simp)
theorem pq_at {f : Nat → Nat} {n : Nat} {os : Nat → Nat → Nat} (hw : WM f n os) (hf : ∀ i, i < n → f i < 512) {d : Nat} (hd : d ≤ 9) {i : Nat} (hi : i < n) : os d (pq os n d (tp d (f i)) i) = f i := by
  have hy : tp d (f i) < 2 ^ d := by
    have := hf i hi
    unfold tp
    rw [Nat.div_lt_iff_lt_mul (Nat.two_pow_pos _), ← Nat.pow_add, show d + (9 - d) = 9 by omega]
    exact this
  have h1 := pq_cn hw hf d hd _ hy (fun z => decide (z = f i)) i (by omega)
  have h2 := pq_cn hw hf d hd _ hy (fun z => decide (z = f i)) (i + 1) (by omega)
  have h3 := pq_len hw hf hd hy (v := i) (by omega)
  have h4 := pq_len hw hf hd hy (v := i + 1) (by omega)
  rw [cn_t (by simp)] at h2 h4
  rw [show pq os n d (tp d (f i)) (i + 1) = pq os n d (tp d (f i)) i + 1 by omega, cn_s] at h2
  by_cases hx : decide (os d (pq os n d (tp d (f i)) i) = f i) = true
  · exact of_decide_eq_true hx
  · rw [if_neg hx] at h2; omega
