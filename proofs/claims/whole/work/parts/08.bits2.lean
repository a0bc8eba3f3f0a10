/-! bitCount: the sum by bytes -/
theorem an_sp (a c : Nat) {b d : Nat} (hb : b < 256) (hd : d < 256) : (a * 256 + b) &&& (c * 256 + d) = (a &&& c) * 256 + (b &&& d) := by
  have e : ∀ x y : Nat, x * 256 + y = 2 ^ 8 * x + y := fun x y => by rw [Nat.mul_comm]
  have hbd : b &&& d < 2 ^ 8 := Nat.lt_of_le_of_lt Nat.and_le_left hb
  rw [e, e, e]
  apply Nat.eq_of_testBit_eq
  intro j
  rw [Nat.testBit_and, Nat.testBit_two_pow_mul_add _ hb, Nat.testBit_two_pow_mul_add _ hd, Nat.testBit_two_pow_mul_add _ hbd]
  split <;> rw [Nat.testBit_and]
def p8 (b : Nat) : Nat := cn (fun i => b.testBit i) 8
theorem s1_lo : ∀ r, r < 2 → ∀ l, l < 256 → (r * 128 + l / 2) &&& 85 = (l / 2) &&& 85 := by decide +kernel
theorem s2_lo : ∀ r, r < 4 → ∀ l, l < 256 → (r * 64 + l / 4) &&& 51 = (l / 4) &&& 51 := by decide +kernel
def g1 (b : Nat) : Nat := b - ((b / 2) &&& 85)
def g2 (c : Nat) : Nat := (c &&& 51) + ((c / 4) &&& 51)
def g3 (c : Nat) : Nat := (c + c / 16) % 16
theorem g_ok : ∀ b, b < 256 → g1 b < 256 ∧ g2 (g1 b) ≤ 68 ∧ g2 (g1 b) % 16 ≤ 4 ∧ g2 (g1 b) / 16 ≤ 4 ∧ g3 (g2 (g1 b)) = p8 b ∧ p8 b ≤ 8 := by decide +kernel
theorem s1_sp (M h l : Nat) (hl : l < 256) : (h * 256 + l) - (((h * 256 + l) / 2) &&& (M * 256 + 85)) = (h - ((h / 2) &&& M)) * 256 + g1 l := by
  rw [show (h * 256 + l) / 2 = (h / 2) * 256 + ((h % 2) * 128 + l / 2) by omega, an_sp _ _ (by omega) (by omega), s1_lo _ (by omega) _ hl]
  have a : h / 2 &&& M ≤ h / 2 := Nat.and_le_left
  have b : l / 2 &&& 85 ≤ l / 2 := Nat.and_le_left
  unfold g1; omega
theorem s2_sp (M h l : Nat) (hl : l < 256) : ((h * 256 + l) &&& (M * 256 + 51)) + (((h * 256 + l) / 4) &&& (M * 256 + 51)) = ((h &&& M) + ((h / 4) &&& M)) * 256 + g2 l := by
  rw [show (h * 256 + l) / 4 = (h / 4) * 256 + ((h % 4) * 64 + l / 4) by omega, an_sp _ _ hl (by omega), an_sp _ _ (show h % 4 * 64 + l / 4 < 256 by omega) (by omega), s2_lo _ (by omega) _ hl]
  unfold g2; omega
theorem a15 (x : Nat) : x &&& 15 = x % 16 := Nat.and_two_pow_sub_one_eq_mod x 4
theorem s3_sp (M h l : Nat) (hl : l ≤ 68) (hh : h % 16 ≤ 4) : ((h * 256 + l) + (h * 256 + l) / 16) &&& (M * 256 + 15) = ((h + h / 16) &&& M) * 256 + g3 l := by
  rw [show (h * 256 + l) + (h * 256 + l) / 16 = (h + h / 16) * 256 + (l + (h % 16) * 16 + l / 16) by omega, an_sp _ _ (by omega) (by omega), a15]
  unfold g3
  congr 1
  omega
theorem bc_nat {b0 b1 b2 b3 N n1 n2 n3 n4 : Nat} (h0 : b0 < 256) (h1 : b1 < 256) (h2 : b2 < 256) (h3 : b3 < 256) (hN : N = ((b3 * 256 + b2) * 256 + b1) * 256 + b0)
    (e1 : n1 = N - ((N / 2) &&& 1431655765)) (e2 : n2 = (n1 &&& 858993459) + ((n1 / 4) &&& 858993459)) (e3 : n3 = (n2 + n2 / 16) &&& 252645135) (e4 : n4 = n3 + n3 / 256) :
    (n4 + n4 / 65536) % 64 = p8 b0 + p8 b1 + p8 b2 + p8 b3 ∧ n1 < 4294967296 ∧ n2 < 4294967296 ∧ n2 + n2 / 16 < 4294967296 ∧ n3 < 4294967296 ∧ n4 < 4294967296 := by
  obtain ⟨a0, c0, d0, e0, f0, i0⟩ := g_ok b0 h0
  obtain ⟨a1, c1, d1, x1, f1, i1⟩ := g_ok b1 h1
  obtain ⟨a2, c2, d2, x2, f2, i2⟩ := g_ok b2 h2
  obtain ⟨a3, c3, d3, x3, f3, i3⟩ := g_ok b3 h3
  have t1 : n1 = ((g1 b3 * 256 + g1 b2) * 256 + g1 b1) * 256 + g1 b0 := by
    rw [e1, hN, show (1431655765 : Nat) = ((85 * 256 + 85) * 256 + 85) * 256 + 85 from rfl, s1_sp _ _ _ h0, s1_sp _ _ _ h1, s1_sp _ _ _ h2]; rfl
  have t2 : n2 = ((g2 (g1 b3) * 256 + g2 (g1 b2)) * 256 + g2 (g1 b1)) * 256 + g2 (g1 b0) := by
    rw [e2, t1, show (858993459 : Nat) = ((51 * 256 + 51) * 256 + 51) * 256 + 51 from rfl, s2_sp _ _ _ a0, s2_sp _ _ _ a1, s2_sp _ _ _ a2]; rfl
  have t3 : n3 = ((g3 (g2 (g1 b3)) * 256 + g3 (g2 (g1 b2))) * 256 + g3 (g2 (g1 b1))) * 256 + g3 (g2 (g1 b0)) := by
    rw [e3, t2, show (252645135 : Nat) = ((15 * 256 + 15) * 256 + 15) * 256 + 15 from rfl, s3_sp _ _ _ c0 (by omega), s3_sp _ _ _ c1 (by omega), s3_sp _ _ _ c2 (by omega), a15]; rfl
  rw [f0, f1, f2, f3] at t3
  have t4 : n4 = ((p8 b3 * 256 + (p8 b2 + p8 b3)) * 256 + (p8 b1 + p8 b2)) * 256 + (p8 b0 + p8 b1) := by
    have q : n3 / 256 = (p8 b3 * 256 + p8 b2) * 256 + p8 b1 := by omega
    omega
  have t5 : n4 / 65536 = p8 b3 * 256 + (p8 b2 + p8 b3) := by clear e1 e2 e3 t1 t2 t3 e4; omega
  refine ⟨?_, ?_, ?_, ?_, ?_, ?_⟩
  · rw [t5, t4]; clear e1 e2 e3 t1 t2 t3 e4 t4 t5; omega
  · rw [t1]; omega
  · rw [t2]; omega
  · rw [t2]; omega
  · rw [t3]; omega
  · rw [t4]; omega
theorem bt_nI {N i : Nat} (hi : i < 32) : bt (nI N) i = N.testBit i := by
  show (BitVec.ofNat 32 N).getLsbD i = _
  rw [BitVec.getLsbD_ofNat]; simp [hi]
theorem tb_byte (N k i : Nat) (hi : i < 8) : N.testBit (8 * k + i) = (N / 256 ^ k % 256).testBit i := by
  rw [show (256 : Nat) ^ k = 2 ^ (8 * k) by rw [Nat.pow_mul], show (256 : Nat) = 2 ^ 8 from rfl, Nat.testBit_mod_two_pow, decide_eq_true hi, Bool.true_and, Nat.testBit_div_two_pow, Nat.add_comm]
theorem bc_cn (N : Nat) : cn (bt (nI N)) 32 = p8 (N % 256) + p8 (N / 256 % 256) + p8 (N / 65536 % 256) + p8 (N / 16777216 % 256) := by
  have e : cn (bt (nI N)) 32 = cn (fun i => N.testBit i) 32 := cn_congr (fun i hi => bt_nI hi)
  rw [e, show (32 : Nat) = 8 + 8 + 8 + 8 from rfl, cn_shift, cn_shift, cn_shift]
  unfold p8
  congr 1
  · congr 1
    · congr 1
      · exact cn_congr (fun i hi => by have := tb_byte N 0 i hi; simpa using this)
      · exact cn_congr (fun i hi => by have := tb_byte N 1 i hi; simpa using this)
    · exact cn_congr (fun i hi => by have := tb_byte N 2 i hi; simpa using this)
  · exact cn_congr (fun i hi => by have := tb_byte N 3 i hi; simpa using this)
theorem nx_and (a b : Nat) : nI a &&& nI b = nI (a &&& b) := by
  apply Int32.toBitVec_inj.1
  show BitVec.ofNat 32 a &&& BitVec.ofNat 32 b = BitVec.ofNat 32 (a &&& b)
  apply BitVec.eq_of_getLsbD_eq
  intro i hi
  simp [hi]
theorem of32 (x : Int32) : ∃ n, n < 4294967296 ∧ x = nI n := ⟨x.toBitVec.toNat, x.toBitVec.isLt, by
  apply Int32.toBitVec_inj.1
  show x.toBitVec = BitVec.ofNat 32 x.toBitVec.toNat
  simp⟩
