/-! The bog told apart from its cells, masks, and class Bog's further methods. -/
theorem put_eq {c p K : Int} {k m : Nat} (hc : 0 ≤ c ∧ c < 2147483648) (hk : k + m ≤ 30) (hp : 0 ≤ p ∧ p < ((2 ^ m : Nat) : Int)) (hK : ∀ i, i < 32 → (Int32.ofInt K).toBitVec.toNat.testBit i = !(decide (k ≤ i) && decide (i < k + m))) : ior (iand c K) (ishl p k) = c / ((2 ^ (k + m) : Nat) : Int) * ((2 ^ (k + m) : Nat) : Int) + p * ((2 ^ k : Nat) : Int) + c % ((2 ^ k : Nat) : Int) := by
  obtain ⟨n, rfl⟩ : ∃ a : Nat, c = a := ⟨c.toNat, (Int.toNat_of_nonneg hc.1).symm⟩
  obtain ⟨q, rfl⟩ : ∃ a : Nat, p = a := ⟨p.toNat, (Int.toNat_of_nonneg hp.1).symm⟩
  have hn : n < 2 ^ 31 := by omega
  have hq : q < 2 ^ m := by exact_mod_cast hp.2
  have hqk : q * 2 ^ k < 2 ^ 30 := by
    have h1 : q * 2 ^ k < 2 ^ m * 2 ^ k := Nat.mul_lt_mul_of_pos_right hq (Nat.two_pow_pos k)
    rw [← Nat.pow_add] at h1
    exact Nat.lt_of_lt_of_le h1 (Nat.pow_le_pow_right (by decide) (by omega))
  have e1 : iand (n : Int) K = ((n &&& (Int32.ofInt K).toBitVec.toNat : Nat) : Int) := by
    have e : Int32.ofInt K = nI (Int32.ofInt K).toBitVec.toNat := by
      apply Int32.toBitVec_inj.mp
      apply BitVec.eq_of_toNat_eq
      show _ = (BitVec.ofNat 32 (Int32.ofInt K).toBitVec.toNat).toNat
      rw [BitVec.toNat_ofNat, Nat.mod_eq_of_lt (Int32.ofInt K).toBitVec.isLt]
    rw [iand, ofN]
    conv => lhs; rw [e]
    rw [nI_and, nI_toInt]
    exact Nat.lt_of_le_of_lt Nat.and_le_left hn
  rw [e1, ishl_n (by omega) (by omega), ior_n (Nat.lt_of_le_of_lt Nat.and_le_left hn) (by omega), nat_put hn (by omega) hq hK]
  simp
