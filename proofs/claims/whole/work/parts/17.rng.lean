/-! ranges of arguments -/
abbrev m9 (x : Int32) : Nat := x.toBitVec.toNat % 512
theorem and511 (x : Int32) : x &&& nI 511 = nI (m9 x) := pk_and x 9 (by decide +kernel)
theorem m9_lt (x : Int32) : m9 x < 512 := Nat.mod_lt _ (by omega)
theorem rg_mk {x : Int32} {n : Nat} (h1 : ¬ x < 0) (h2 : x ≤ nI n) (hn : n < 2147483648 := by omega) : ∃ k, k ≤ n ∧ x = nI k := by
  obtain ⟨j, hj, rfl⟩ := nI_of h1
  exact ⟨j, (nI_leI hj hn).mp h2, rfl⟩
theorem rg_n1 {x : Int32} (h : x < 0) {P : Nat → Prop} : ¬ ∃ k, (k < 2147483648 ∧ P k) ∧ x = nI k := fun ⟨k, hk, e⟩ => by rw [e] at h; exact nI_pos hk.1 h
theorem neg_n {x : Int32} {k : Nat} (h : x < 0) (e : x = nI k) (hk : k < 2147483648 := by omega) : False := by rw [e] at h; exact nI_pos hk h
theorem rl_mk {x : Int32} {n : Nat} (h1 : ¬ x < 0) (h2 : x < nI n) (hn : n < 2147483648 := by omega) : ∃ k, k < n ∧ x = nI k := by
  obtain ⟨j, hj, rfl⟩ := nI_of h1
  exact ⟨j, (nI_ltI hj hn).mp h2, rfl⟩
theorem pa_mk {x y : Int32} {n : Nat} (h1 : ¬ x < 0) (h2 : ¬ y < x) (h3 : ¬ nI n < y) (hn : n < 2147483648 := by omega) : ∃ u v, u ≤ v ∧ v ≤ n ∧ x = nI u ∧ y = nI v := by
  obtain ⟨u, hu, rfl⟩ := nI_of h1
  have h4 : ¬ y < 0 := fun q => h2 (by
    rw [Int32.lt_iff_toInt_lt, nI_toInt hu]
    rw [Int32.lt_iff_toInt_lt, Int32.toInt_zero] at q
    omega)
  obtain ⟨v, hv, rfl⟩ := nI_of h4
  exact ⟨u, v, nltN h2, nltN h3, rfl, rfl⟩
/-- a number below lim and a part -/
def QA (lim : Nat) (x a b : Int32) (n : Nat) : Prop := ∃ y u v, y < lim ∧ u ≤ v ∧ v ≤ n ∧ x = nI y ∧ a = nI u ∧ b = nI v
/-- a part -/
def PA (a b : Int32) (n : Nat) : Prop := ∃ u v, u ≤ v ∧ v ≤ n ∧ a = nI u ∧ b = nI v
theorem pa_1 {a b : Int32} {n : Nat} (hn : n ≤ 4000) (h : a < 0) : ¬ PA a b n := fun ⟨u, v, h1, h2, e1, e2⟩ => neg_n h e1
theorem pa_2 {a b : Int32} {n : Nat} (hn : n ≤ 4000) (h : b < a) : ¬ PA a b n := fun ⟨u, v, h1, h2, e1, e2⟩ => by
  rw [e1, e2] at h
  have := ltN h
  omega
theorem pa_3 {a b : Int32} {n : Nat} (hn : n ≤ 4000) (h : nI n < b) : ¬ PA a b n := fun ⟨u, v, h1, h2, e1, e2⟩ => by
  rw [e2] at h
  have := ltN h
  omega
theorem qa_p {lim : Nat} {x a b : Int32} {n : Nat} (h : QA lim x a b n) : PA a b n := by
  obtain ⟨y, u, v, h1, h2, h3, e1, e2, e3⟩ := h
  exact ⟨u, v, h2, h3, e2, e3⟩
theorem qa_1 {lim : Nat} {x a b : Int32} {n : Nat} (hl : lim ≤ 513) (h : x < 0) : ¬ QA lim x a b n := fun ⟨y, u, v, h1, h2, h3, e1, e2, e3⟩ => neg_n h e1
theorem qa_2 {lim g : Nat} {x a b : Int32} {n : Nat} (hl : lim = g + 1) (hg : g ≤ 512) (h : nI g < x) : ¬ QA lim x a b n := fun ⟨y, u, v, h1, h2, h3, e1, e2, e3⟩ => by
  rw [e1] at h
  have := ltN h
  omega
theorem nle_lt {x y : Int32} (h : ¬ x ≤ y) : y < x := by
  rw [Int32.lt_iff_toInt_lt]
  rw [Int32.le_iff_toInt_le] at h
  omega
theorem nlt_le {x y : Int32} (h : ¬ x < y) : y ≤ x := by
  rw [Int32.le_iff_toInt_le]
  rw [Int32.lt_iff_toInt_lt] at h
  omega
theorem le_nlt {x y : Int32} (h : x ≤ y) : ¬ y < x := by
  rw [Int32.lt_iff_toInt_lt]
  rw [Int32.le_iff_toInt_le] at h
  omega
