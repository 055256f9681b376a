/-! The bog's own small methods on class BogBoards$Bog (cells 2..9; the draft's 10..17): what they answer. -/
theorem ishr_i {x k : Int} (hx : 0 ≤ x ∧ x ≤ 2147483647) (hk : 0 ≤ k ∧ k < 32) : ishr x k = x / 2 ^ k.toNat := by
  obtain ⟨a, rfl⟩ : ∃ a : Nat, x = a := ⟨x.toNat, (Int.toNat_of_nonneg hx.1).symm⟩
  obtain ⟨b, rfl⟩ : ∃ b : Nat, k = b := ⟨k.toNat, (Int.toNat_of_nonneg hk.1).symm⟩
  rw [ishr_n (by omega) (by omega), Int.toNat_natCast]
  simp
def wAt (c w : Int) : Int := c / 8 ^ w.toNat % 8
def bAt (c b : Int) : Int := c / 512 / 16 ^ b.toNat % 16
theorem wAt_0 (c : Int) : wAt c 0 = c % 8 := by simp [wAt]
theorem wAt_1 (c : Int) : wAt c 1 = c / 8 % 8 := by simp [wAt]
theorem wAt_2 (c : Int) : wAt c 2 = c / 64 % 8 := by simp [wAt]
theorem bAt_0 (c : Int) : bAt c 0 = c / 512 % 16 := by simp [bAt]
theorem bAt_1 (c : Int) : bAt c 1 = c / 8192 % 16 := by simp only [bAt]; simp; omega
section BOG
variable {d : Nat} {I : MM} {c w b p : Int}
theorem x_walkerAt (hc : 0 ≤ c ∧ c < 131072) (hw : 0 ≤ w ∧ w < 3) : call (d + 1) 7 [vR 2, vI c, vI w] I = some (some (vI (wAt c w)), I) := by
  rw [en7]
  have h : w = 0 ∨ w = 1 ∨ w = 2 := by omega
  rcases h with rfl | rfl | rfl
  · simp (disch := omega) only [r7_0, r7_1, r7_2, r7_3, r7_4, r7_5, r7_7, r7_8, imul_eq, ishr_i, wAt_0]
    simp
    exact iand_7 (by omega)
  · simp (disch := omega) only [r7_0, r7_1, r7_2, r7_3, r7_4, r7_5, r7_7, r7_8, imul_eq, ishr_i, wAt_1]
    simp
    exact iand_7 (by omega)
  · simp (disch := omega) only [r7_0, r7_1, r7_2, r7_3, r7_4, r7_5, r7_7, r7_8, imul_eq, ishr_i, wAt_2]
    simp
    exact iand_7 (by omega)
end BOG
section BOG2
variable {d : Nat} {I : MM} {c w b p v : Int}
theorem x_walkerAt' (hc : 0 ≤ c ∧ c < 131072) (hw : 0 ≤ w ∧ w < 3) : call (d + 1) 7 [vR 10, vI c, vI w] I = some (some (vI (wAt c w)), I) := by
  rw [en7a]
  have h : w = 0 ∨ w = 1 ∨ w = 2 := by omega
  rcases h with rfl | rfl | rfl
  · simp (disch := omega) only [r7_0, r7_1, r7_2, r7_3, r7_4, r7_5, r7_7, r7_8, imul_eq, ishr_i, wAt_0]
    simp
    exact iand_7 (by omega)
  · simp (disch := omega) only [r7_0, r7_1, r7_2, r7_3, r7_4, r7_5, r7_7, r7_8, imul_eq, ishr_i, wAt_1]
    simp
    exact iand_7 (by omega)
  · simp (disch := omega) only [r7_0, r7_1, r7_2, r7_3, r7_4, r7_5, r7_7, r7_8, imul_eq, ishr_i, wAt_2]
    simp
    exact iand_7 (by omega)
theorem x_boardAt (hc : 0 ≤ c ∧ c < 131072) (hb : 0 ≤ b ∧ b < 2) : call (d + 1) 8 [vR 2, vI c, vI b] I = some (some (vI (bAt c b)), I) := by
  rw [en8]
  have h : b = 0 ∨ b = 1 := by omega
  rcases h with rfl | rfl
  · simp (disch := omega) only [r8_0, r8_1, r8_3, r8_4, r8_5, r8_6, r8_7, r8_8, r8_10, r8_11, imul_eq, iadd_eq, ishr_i, bAt_0]
    simp
    exact iand_15 (by omega)
  · simp (disch := omega) only [r8_0, r8_1, r8_3, r8_4, r8_5, r8_6, r8_7, r8_8, r8_10, r8_11, imul_eq, iadd_eq, ishr_i, bAt_1]
    simp
    exact iand_15 (by omega)
theorem x_boardAt' (hc : 0 ≤ c ∧ c < 131072) (hb : 0 ≤ b ∧ b < 2) : call (d + 1) 8 [vR 10, vI c, vI b] I = some (some (vI (bAt c b)), I) := by
  rw [en8a]
  have h : b = 0 ∨ b = 1 := by omega
  rcases h with rfl | rfl
  · simp (disch := omega) only [r8_0, r8_1, r8_3, r8_4, r8_5, r8_6, r8_7, r8_8, r8_10, r8_11, imul_eq, iadd_eq, ishr_i, bAt_0]
    simp
    exact iand_15 (by omega)
  · simp (disch := omega) only [r8_0, r8_1, r8_3, r8_4, r8_5, r8_6, r8_7, r8_8, r8_10, r8_11, imul_eq, iadd_eq, ishr_i, bAt_1]
    simp
    exact iand_15 (by omega)
end BOG2
