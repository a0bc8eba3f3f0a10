/-! rows for the plain reading of a part, place by place and number by number -/
theorem eq_s0 {f : Nat → Nat} {y u k : Nat} (h : u ≤ k) (hf : f k ≠ y) : eq f y u (k + 1) = eq f y u k := by
  unfold eq; rw [ct_s _ h, if_neg (by simpa using hf)]; rfl
theorem eq_s1 {f : Nat → Nat} {y u k : Nat} (h : u ≤ k) (hf : f k = y) : eq f y u (k + 1) = eq f y u k + 1 := by
  unfold eq; rw [ct_s _ h, if_pos (by simpa using hf)]
theorem lq_s0 {f : Nat → Nat} {y u k : Nat} (h : u ≤ k) (hf : y ≤ f k) : lq f y u (k + 1) = lq f y u k := by
  unfold lq; rw [ct_s _ h, if_neg (by simpa using hf)]; rfl
theorem lq_s1 {f : Nat → Nat} {y u k : Nat} (h : u ≤ k) (hf : f k < y) : lq f y u (k + 1) = lq f y u k + 1 := by
  unfold lq; rw [ct_s _ h, if_pos (by simpa using hf)]
/-- -1, or a number -/
def bI (o : Option Nat) : Int32 := match o with
  | none => -1
  | some w => nI w
theorem m1_lt {w : Nat} (h : w < 2147483648) : ¬ nI w ≤ (-1) := by
  rw [Int32.le_iff_toInt_le, nI_toInt h, show ((-1 : Int32)).toInt = -1 from by decide +kernel]
  omega
/-- the greatest of the part u .. k that is not above y -/
def BM (f : Nat → Nat) (y u k : Nat) (o : Option Nat) : Prop := match o with
  | none => ∀ i, u ≤ i → i < k → y < f i
  | some w => (∃ i, u ≤ i ∧ i < k ∧ f i = w) ∧ w ≤ y ∧ ∀ i, u ≤ i → i < k → f i ≤ y → f i ≤ w
theorem BM.z {f : Nat → Nat} {y u : Nat} : BM f y u u none := fun i h1 h2 => absurd h2 (by omega)
theorem BM.skip {f : Nat → Nat} {y u k : Nat} {o : Option Nat} (h : BM f y u k o) (hk : y < f k ∨ ∃ w, o = some w ∧ f k ≤ w) : BM f y u (k + 1) o := by
  cases o with
  | none =>
    intro i h1 h2
    rcases Nat.lt_or_ge i k with q | q
    · exact h i h1 q
    · obtain rfl : i = k := by omega
      rcases hk with a | ⟨w, hw, -⟩
      · exact a
      · cases hw
  | some w =>
    obtain ⟨⟨i, a1, a2, a3⟩, h2, h3⟩ := h
    refine ⟨⟨i, a1, by omega, a3⟩, h2, fun t b1 b2 b3 => ?_⟩
    rcases Nat.lt_or_ge t k with q | q
    · exact h3 t b1 q b3
    · obtain rfl : t = k := by omega
      rcases hk with a | ⟨w1, hw, ha⟩
      · omega
      · cases hw; exact ha
theorem BM.take {f : Nat → Nat} {y u k : Nat} {o : Option Nat} (h : BM f y u k o) (hu : u ≤ k) (hk : f k ≤ y) (hw : ∀ w, o = some w → w < f k) : BM f y u (k + 1) (some (f k)) := by
  refine ⟨⟨k, hu, by omega, rfl⟩, hk, fun t b1 b2 b3 => ?_⟩
  rcases Nat.lt_or_ge t k with q | q
  · cases o with
    | none => have := h t b1 q; omega
    | some w =>
      have := h.2.2 t b1 q b3
      have := hw w rfl
      omega
  · obtain rfl : t = k := by omega
    exact Nat.le_refl _
theorem BM.one {f : Nat → Nat} {y u k : Nat} {o o2 : Option Nat} (h : BM f y u k o) (h2 : BM f y u k o2) : o = o2 := by
  cases o with
  | none =>
    cases o2 with
    | none => rfl
    | some w =>
      obtain ⟨⟨i, a1, a2, a3⟩, b, -⟩ := h2
      have := h i a1 a2
      omega
  | some w =>
    cases o2 with
    | none =>
      obtain ⟨⟨i, a1, a2, a3⟩, b, -⟩ := h
      have := h2 i a1 a2
      omega
    | some w2 =>
      obtain ⟨⟨i, a1, a2, a3⟩, b, d⟩ := h
      obtain ⟨⟨j, x1, x2, x3⟩, y1, z⟩ := h2
      have p1 := d j x1 x2 (by omega)
      have p2 := z i a1 a2 (by omega)
      rw [show w = w2 by omega]
/-- the most frequent of the numbers below w, of several the least -/
def MM (f : Nat → Nat) (u v w : Nat) (o : Option Nat) : Prop := match o with
  | none => ∀ t, t < w → eq f t u v = 0
  | some b => b < w ∧ 0 < eq f b u v ∧ ∀ t, t < w → eq f t u v ≤ eq f b u v ∧ (t < b → eq f t u v < eq f b u v)
theorem MM.z {f : Nat → Nat} {u v : Nat} : MM f u v 0 none := fun t h => absurd h (by omega)
theorem MM.skip {f : Nat → Nat} {u v w : Nat} {o : Option Nat} (h : MM f u v w o) (hw : eq f w u v = 0 ∨ ∃ b, o = some b ∧ eq f w u v ≤ eq f b u v) : MM f u v (w + 1) o := by
  cases o with
  | none =>
    intro t ht
    rcases Nat.lt_or_ge t w with q | q
    · exact h t q
    · obtain rfl : t = w := by omega
      rcases hw with a | ⟨b, hb, -⟩
      · exact a
      · cases hb
  | some b =>
    obtain ⟨h1, h2, h3⟩ := h
    refine ⟨by omega, h2, fun t ht => ?_⟩
    rcases Nat.lt_or_ge t w with q | q
    · exact h3 t q
    · obtain rfl : t = w := by omega
      rcases hw with a | ⟨b1, hb, a⟩
      · exact ⟨by omega, fun q2 => absurd q2 (by omega)⟩
      · cases hb; exact ⟨a, fun q2 => absurd q2 (by omega)⟩
theorem MM.take {f : Nat → Nat} {u v w : Nat} {o : Option Nat} (h : MM f u v w o) (hp : 0 < eq f w u v) (hw : ∀ b, o = some b → eq f b u v < eq f w u v) : MM f u v (w + 1) (some w) := by
  refine ⟨by omega, hp, fun t ht => ?_⟩
  rcases Nat.lt_or_ge t w with q | q
  · cases o with
    | none => have := h t q; exact ⟨by omega, fun _ => by omega⟩
    | some b =>
      have a1 := (h.2.2 t q).1
      have a2 := hw b rfl
      exact ⟨by omega, fun _ => by omega⟩
  · obtain rfl : t = w := by omega
    exact ⟨Nat.le_refl _, fun q2 => absurd q2 (by omega)⟩
theorem MM.one {f : Nat → Nat} {u v w : Nat} {o o2 : Option Nat} (h : MM f u v w o) (h2 : MM f u v w o2) : o = o2 := by
  cases o with
  | none =>
    cases o2 with
    | none => rfl
    | some b => have := h b h2.1; have := h2.2.1; omega
  | some b =>
    cases o2 with
    | none => have := h2 b h.1; have := h.2.1; omega
    | some b2 =>
      rcases Nat.lt_trichotomy b b2 with q | q | q
      · have a1 := (h2.2.2 b h.1).2 q
        have a2 := (h.2.2 b2 h2.1).1
        omega
      · rw [q]
      · have a1 := (h.2.2 b2 h2.1).2 q
        have a2 := (h2.2.2 b h.1).1
        omega
/-- how many different numbers below w the part has -/
def nd (f : Nat → Nat) (u v w : Nat) : Nat := cn (fun t => decide (0 < eq f t u v)) w
theorem nd_le (f : Nat → Nat) (u v w : Nat) : nd f u v w ≤ w := cn_le _ _
theorem nd_s0 {f : Nat → Nat} {u v w : Nat} (h : eq f w u v = 0) : nd f u v (w + 1) = nd f u v w := cn_f (by simp [h])
theorem nd_s1 {f : Nat → Nat} {u v w : Nat} (h : 0 < eq f w u v) : nd f u v (w + 1) = nd f u v w + 1 := cn_t (by simp [h])
theorem nd_mono (f : Nat → Nat) (u v : Nat) {a b : Nat} (h : a ≤ b) : nd f u v a ≤ nd f u v b := cn_mono _ h
/-- what different lays down: the numbers below w, in order, and how often -/
def DF (f : Nat → Nat) (u v w : Nat) (a b : Nat → Int32) : Prop := ∀ t, t < w → 0 < eq f t u v → a (nd f u v t) = nI t ∧ b (nd f u v t) = nI (eq f t u v)
theorem DF.skip {f : Nat → Nat} {u v w : Nat} {a b : Nat → Int32} (h : DF f u v w a b) (hw : eq f w u v = 0) : DF f u v (w + 1) a b := fun t ht hp => by
  rcases Nat.lt_or_ge t w with q | q
  · exact h t q hp
  · obtain rfl : t = w := by omega
    omega
theorem DF.put {f : Nat → Nat} {u v w : Nat} {a b : Nat → Int32} (h : DF f u v w a b) (hw : 0 < eq f w u v) : DF f u v (w + 1) (upd a (nd f u v w) (nI w)) (upd b (nd f u v w) (nI (eq f w u v))) := fun t ht hp => by
  rcases Nat.lt_or_ge t w with q | q
  · have h1 : nd f u v t ≠ nd f u v w := by
      have := nd_mono f u v (show t + 1 ≤ w by omega)
      rw [nd_s1 hp] at this
      omega
    rw [pk_un h1, pk_un h1]
    exact h t q hp
  · obtain rfl : t = w := by omega
    exact ⟨pk_us, pk_us⟩
