/-! The bog's own small methods on class BogBoards$Bog (cells 2..9; the draft's 10..17): what they answer. -/
theorem ishr_i {x k : Int} (hx : 0 ≤ x ∧ x ≤ 2147483647) (hk : 0 ≤ k ∧ k < 32) : ishr x k = x / 2 ^ k.toNat := by
  obtain ⟨a, rfl⟩ : ∃ a : Nat, x = a := ⟨x.toNat, (Int.toNat_of_nonneg hx.1).symm⟩
  obtain ⟨b, rfl⟩ : ∃ b : Nat, k = b := ⟨k.toNat, (Int.toNat_of_nonneg hk.1).symm⟩
  rw [ishr_n (by omega) (by omega), Int.toNat_natCast]
  simp
def wAt (c w : Int) : Int := c / 8 ^ w.toNat % 8
def bAt (c b : Int) : Int := c / 512 / 16 ^ b.toNat % 16
theorem wAt_0 (c : Int) : wAt c 0 = c % 8 := by simp [wAt]
theorem wAt_1 (c : Int) : wAt c 1 = c / 8 % 8 := by simp [wAt]
theorem wAt_2 (c : Int) : wAt c 2 = c / 64 % 8 := by simp [wAt]
theorem bAt_0 (c : Int) : bAt c 0 = c / 512 % 16 := by simp [bAt]
theorem bAt_1 (c : Int) : bAt c 1 = c / 8192 % 16 := by simp only [bAt]; simp; omega
section BOG
variable {d : Nat} {I : MM} {c w b p : Int}
theorem x_walkerAt (hc : 0 ≤ c ∧ c < 131072) (hw : 0 ≤ w ∧ w < 3) : call (d + 1) 7 [vR 2, vI c, vI w] I = some (some (vI (wAt c w)), I) := by
  rw [en7]
  have h : w = 0 ∨ w = 1 ∨ w = 2 := by omega
  rcases h with rfl | rfl | rfl
  · simp (disch := omega) only [r7_0, r7_1, r7_2, r7_3, r7_4, r7_5, r7_7, r7_8, imul_eq, ishr_i, wAt_0]
    simp
    exact iand_7 (by omega)
  · simp (disch := omega) only [r7_0, r7_1, r7_2, r7_3, r7_4, r7_5, r7_7, r7_8, imul_eq, ishr_i, wAt_1]
    simp
    exact iand_7 (by omega)
  · simp (disch := omega) only [r7_0, r7_1, r7_2, r7_3, r7_4, r7_5, r7_7, r7_8, imul_eq, ishr_i, wAt_2]
    simp
    exact iand_7 (by omega)
end BOG
section BOG2
variable {d : Nat} {I : MM} {c w b p v : Int}
theorem x_walkerAt' (hc : 0 ≤ c ∧ c < 131072) (hw : 0 ≤ w ∧ w < 3) : call (d + 1) 7 [vR 10, vI c, vI w] I = some (some (vI (wAt c w)), I) := by
  rw [en7a]
  have h : w = 0 ∨ w = 1 ∨ w = 2 := by omega
  rcases h with rfl | rfl | rfl
  · simp (disch := omega) only [r7_0, r7_1, r7_2, r7_3, r7_4, r7_5, r7_7, r7_8, imul_eq, ishr_i, wAt_0]
    simp
    exact iand_7 (by omega)
  · simp (disch := omega) only [r7_0, r7_1, r7_2, r7_3, r7_4, r7_5, r7_7, r7_8, imul_eq, ishr_i, wAt_1]
    simp
    exact iand_7 (by omega)
  · simp (disch := omega) only [r7_0, r7_1, r7_2, r7_3, r7_4, r7_5, r7_7, r7_8, imul_eq, ishr_i, wAt_2]
    simp
    exact iand_7 (by omega)
theorem x_boardAt (hc : 0 ≤ c ∧ c < 131072) (hb : 0 ≤ b ∧ b < 2) : call (d + 1) 8 [vR 2, vI c, vI b] I = some (some (vI (bAt c b)), I) := by
  rw [en8]
  have h : b = 0 ∨ b = 1 := by omega
  rcases h with rfl | rfl
  · simp (disch := omega) only [r8_0, r8_1, r8_3, r8_4, r8_5, r8_6, r8_7, r8_8, r8_10, r8_11, imul_eq, iadd_eq, ishr_i, bAt_0]
    simp
    exact iand_15 (by omega)
  · simp (disch := omega) only [r8_0, r8_1, r8_3, r8_4, r8_5, r8_6, r8_7, r8_8, r8_10, r8_11, imul_eq, iadd_eq, ishr_i, bAt_1]
    simp
    exact iand_15 (by omega)
theorem x_boardAt' (hc : 0 ≤ c ∧ c < 131072) (hb : 0 ≤ b ∧ b < 2) : call (d + 1) 8 [vR 10, vI c, vI b] I = some (some (vI (bAt c b)), I) := by
  rw [en8a]
  have h : b = 0 ∨ b = 1 := by omega
  rcases h with rfl | rfl
  · simp (disch := omega) only [r8_0, r8_1, r8_3, r8_4, r8_5, r8_6, r8_7, r8_8, r8_10, r8_11, imul_eq, iadd_eq, ishr_i, bAt_0]
    simp
    exact iand_15 (by omega)
  · simp (disch := omega) only [r8_0, r8_1, r8_3, r8_4, r8_5, r8_6, r8_7, r8_8, r8_10, r8_11, imul_eq, iadd_eq, ishr_i, bAt_1]
    simp
    exact iand_15 (by omega)
end BOG2
/-- bits k .. k+m-1 of a number put anew -/
theorem nat_put {n k m K p : Nat} (hn : n < 2 ^ 31) (hk : k + m ≤ 31) (hp : p < 2 ^ m) (hK : ∀ i, i < 32 → K.testBit i = !(decide (k ≤ i) && decide (i < k + m))) : (n &&& K) ||| (p * 2 ^ k) = n / 2 ^ (k + m) * 2 ^ (k + m) + p * 2 ^ k + n % 2 ^ k := by
  have h1 : n % 2 ^ k < 2 ^ k := Nat.mod_lt _ (Nat.two_pow_pos k)
  have h2 : p * 2 ^ k + n % 2 ^ k = p <<< k ||| n % 2 ^ k := by
    rw [← Nat.shiftLeft_add_eq_or_of_lt h1, Nat.shiftLeft_eq]
  have h3 : p * 2 ^ k + n % 2 ^ k < 2 ^ (k + m) := by
    have : (p + 1) * 2 ^ k ≤ 2 ^ m * 2 ^ k := Nat.mul_le_mul_right _ hp
    rw [Nat.add_mul, Nat.one_mul, ← Nat.pow_add, Nat.add_comm m k] at this
    omega
  have h4 : n / 2 ^ (k + m) * 2 ^ (k + m) + (p * 2 ^ k + n % 2 ^ k) = (n >>> (k + m)) <<< (k + m) ||| (p <<< k ||| n % 2 ^ k) := by
    rw [← h2, ← Nat.shiftLeft_add_eq_or_of_lt h3, Nat.shiftLeft_eq, Nat.shiftRight_eq_div_pow]
  rw [Nat.add_assoc, h4, ← Nat.shiftLeft_eq]
  apply Nat.eq_of_testBit_eq
  intro i
  simp only [Nat.testBit_or, Nat.testBit_and, Nat.testBit_shiftLeft, Nat.testBit_shiftRight, Nat.testBit_mod_two_pow]
  by_cases hi : i < 32
  · rw [hK i hi]
    by_cases a : k ≤ i
    · by_cases b : i < k + m
      · simp [a, b, show ¬ (k + m ≤ i) by omega, show ¬ (i < k) by omega]
      · have hb : p.testBit (i - k) = false := Nat.testBit_lt_two_pow (Nat.lt_of_lt_of_le hp (Nat.pow_le_pow_right (by decide) (by omega)))
        simp [a, b, show k + m ≤ i by omega, show ¬ (i < k) by omega, hb, show k + m + (i - (k + m)) = i by omega]
    · simp [a, show ¬ (k + m ≤ i) by omega, show i < k by omega]
  · have hni : n.testBit i = false := Nat.testBit_lt_two_pow (Nat.lt_of_lt_of_le hn (Nat.pow_le_pow_right (by decide) (by omega)))
    have hb : p.testBit (i - k) = false := Nat.testBit_lt_two_pow (Nat.lt_of_lt_of_le hp (Nat.pow_le_pow_right (by decide) (by omega)))
    have hn2 : k + m ≤ i := by omega
    simp [hni, hb, hn2, show k + m + (i - (k + m)) = i by omega]
