/-! rows for the questions that go from group to group -/
theorem bm_none {f : Nat → Nat} {y u v : Nat} (h : lq f (y + 1) u v = 0) : BM f y u v none := fun i h1 h2 => by
  rcases Nat.lt_or_ge y (f i) with q | q
  · exact q
  · have a := eq_in (f := f) h1 h2 rfl
    have b := lq_s f (f i) (show u ≤ v by omega)
    have d := lq_mono f (show u ≤ v by omega) (show f i + 1 ≤ y + 1 by omega)
    omega
theorem bm_some {f : Nat → Nat} {y u v w : Nat} (huv : u ≤ v) (h : 0 < lq f (y + 1) u v) (hk : KT f u v (lq f (y + 1) u v - 1) w) : BM f y u v (some w) := by
  obtain ⟨k1, k2⟩ := hk
  have hs := lq_s f w huv
  refine ⟨eq_ex (by omega), ?_, fun i h1 h2 h3 => ?_⟩
  · rcases Nat.lt_or_ge y w with q | q
    · have := lq_mono f huv (show y + 1 ≤ w by omega); omega
    · exact q
  · rcases Nat.lt_or_ge w (f i) with q | q
    · have a := eq_in (f := f) h1 h2 rfl
      have b := lq_s f (f i) huv
      have d := lq_mono f huv (show f i + 1 ≤ y + 1 by omega)
      have g := lq_mono f huv (show w + 1 ≤ f i by omega)
      omega
    · exact q
theorem nd_ext {f : Nat → Nat} {u v z w : Nat} (hzw : z ≤ w) (h : ∀ t, z ≤ t → t < w → eq f t u v = 0) : nd f u v w = nd f u v z := by
  induction w with
  | zero => rw [Nat.le_zero.mp hzw]
  | succ w ih =>
    rcases Nat.lt_or_ge z (w + 1) with q | q
    · rw [nd_s0 (h w (by omega) (by omega))]; exact ih (by omega) (fun t a b => h t a (by omega))
    · rw [show z = w + 1 by omega]
theorem lq_flat {f : Nat → Nat} {u v z w : Nat} (huv : u ≤ v) (h : lq f w u v ≤ lq f z u v) : ∀ t, z ≤ t → t < w → eq f t u v = 0 := fun t h1 h2 => by
  have a := lq_mono f huv h1
  have b := lq_mono f huv (show t + 1 ≤ w by omega)
  rw [lq_s f t huv] at b
  omega
theorem kt_next {f : Nat → Nat} {u v z y : Nat} (huv : u ≤ v) (h : KT f u v (lq f z u v) y) : z ≤ y ∧ lq f y u v = lq f z u v ∧ 0 < eq f y u v ∧ (∀ t, z ≤ t → t < y → eq f t u v = 0) ∧ nd f u v y = nd f u v z := by
  obtain ⟨k1, k2⟩ := h
  have hs := lq_s f y huv
  have hz : z ≤ y := by
    rcases Nat.lt_or_ge y z with q | q
    · have := lq_mono f huv (show y + 1 ≤ z by omega); omega
    · exact q
  have hm := lq_mono f huv hz
  have hf := lq_flat huv (show lq f y u v ≤ lq f z u v from k1)
  exact ⟨hz, by omega, by omega, hf, nd_ext hz hf⟩
def DG (f : Nat → Nat) (u v w : Nat) (a : Nat → Int32) : Prop := ∀ t, t < w → 0 < eq f t u v → a (nd f u v t) = nI (t * 4096 + eq f t u v)
theorem DG.next {f : Nat → Nat} {u v z y : Nat} {a : Nat → Int32} (h : DG f u v z a) (hf : ∀ t, z ≤ t → t < y → eq f t u v = 0) (hn : nd f u v y = nd f u v z) : DG f u v (y + 1) (upd a (nd f u v z) (nI (y * 4096 + eq f y u v))) := fun t ht hp => by
  rcases Nat.lt_or_ge t z with q | q
  · have h1 : nd f u v t ≠ nd f u v z := by
      have := nd_mono f u v (show t + 1 ≤ z by omega)
      rw [nd_s1 hp] at this
      omega
    rw [pk_un h1]; exact h t q hp
  · rcases Nat.lt_or_ge t y with q2 | q2
    · have := hf t q q2; omega
    · obtain rfl : t = y := by omega
      rw [hn]; exact pk_us
theorem DG.ext {f : Nat → Nat} {u v z w : Nat} {a : Nat → Int32} (h : DG f u v z a) (hf : ∀ t, z ≤ t → t < w → eq f t u v = 0) : DG f u v w a := fun t ht hp => by
  rcases Nat.lt_or_ge t z with q | q
  · exact h t q hp
  · have := hf t q ht; omega
theorem MM.ext {f : Nat → Nat} {u v z w : Nat} {o : Option Nat} (h : MM f u v z o) (hzw : z ≤ w) (hf : ∀ t, z ≤ t → t < w → eq f t u v = 0) : MM f u v w o := by
  induction w with
  | zero => rw [Nat.le_zero.mp hzw] at h; exact h
  | succ w ih =>
    rcases Nat.lt_or_ge z (w + 1) with q | q
    · exact (ih (by omega) (fun t a b => hf t a (by omega))).skip (Or.inl (hf w (by omega) (by omega)))
    · rw [show z = w + 1 by omega] at h; exact h
def bT (f : Nat → Nat) (u v : Nat) (o : Option Nat) : Nat := match o with
  | none => 0
  | some b => eq f b u v
theorem bT_le (f : Nat → Nat) {u v : Nat} (o : Option Nat) (h : u ≤ v) : bT f u v o ≤ v - u := by
  cases o with
  | none => exact Nat.zero_le _
  | some b => exact eq_le f b h
/-- what different left in the class and in the reference is the same -/
theorem df_pair {f : Nat → Nat} {u v : Nat} {a b g : Nat → Int32} (h1 : DF f u v 512 a b) (h2 : DG f u v 512 g) (huv : u ≤ v) (hv : v ≤ 4000) : ∃ wv tv : Nat → Nat, ∀ i, i < nd f u v 512 → (wv i < 512 ∧ tv i < 4096) ∧ g i = nI (wv i * 4096 + tv i) ∧ a i = nI (wv i) ∧ b i = nI (tv i) := by
  refine ⟨vl a, vl b, fun i hi => ?_⟩
  obtain ⟨t, h3, h4, h5⟩ := cn_kth (p := fun t => decide (0 < eq f t u v)) (n := 512) hi
  have hp : 0 < eq f t u v := of_decide_eq_true h4
  have h6 : nd f u v t = i := h5
  have e1 := h1 t h3 hp
  have e2 := h2 t h3 hp
  rw [h6] at e1 e2
  have el := eq_le f t huv
  have q1 : vl a i = t := A5.e e1.1 (by omega)
  have q2 : vl b i = eq f t u v := A5.e e1.2 (by omega)
  refine ⟨⟨by rw [q1]; exact h3, by rw [q2]; omega⟩, ?_, ?_, ?_⟩
  · rw [q1, q2]; exact e2
  · rw [q1]; exact e1.1
  · rw [q2]; exact e1.2
theorem TR.cg {cI cO : ClassId} {ad : Nat → Nat} {ce ce1 : Nat → va_E} {os : Nat → Nat → Nat} {n : Nat} (h : TR cI cO ad ce os n) (hj : ∀ j, 2 ≤ j ∧ j < 33 → ce1 j = ce j) : TR cI cO ad ce1 os n := by
  obtain ⟨h1, ⟨lv, h2, h3⟩, h4, h5⟩ := h
  exact ⟨(hj 2 (by omega)).trans h1, ⟨lv, (hj 3 (by omega)).trans h2, h3⟩, fun d hd => (h4 d hd).cg (hj _ (by omega)) (hj _ (by omega)) (hj _ (by omega)), h5⟩
