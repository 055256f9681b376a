/-! Long numbers: masks and shifts (turned from rows of kit/laws/BITS that are given for pasting). -/
section
variable {x : Int}
theorem ofNL (n : Nat) : Int64.ofInt (n : Int) = lN n := by
  show Int64.ofInt (n : Int) = Int64.ofNat n
  rw [Int64.ofInt_eq_ofNat]
theorem lN_I {a : Nat} (h : a < 2 ^ 63) : (lN a).toInt = (a : Int) := by rw [← ofNL, i64_id ⟨by omega, by omega⟩]
theorem lN_and (a b : Nat) : lN a &&& lN b = lN (a &&& b) := by
  apply Int64.toBitVec_inj.mp
  rw [Int64.toBitVec_and]
  apply BitVec.eq_of_toNat_eq
  rw [BitVec.toNat_and]
  show (BitVec.ofNat 64 a).toNat &&& (BitVec.ofNat 64 b).toNat = (BitVec.ofNat 64 (a &&& b)).toNat
  simp only [BitVec.toNat_ofNat]
  rw [Nat.and_mod_two_pow]
theorem lN_or (a b : Nat) : lN a ||| lN b = lN (a ||| b) := by
  apply Int64.toBitVec_inj.mp
  rw [Int64.toBitVec_or]
  apply BitVec.eq_of_toNat_eq
  rw [BitVec.toNat_or]
  show (BitVec.ofNat 64 a).toNat ||| (BitVec.ofNat 64 b).toNat = (BitVec.ofNat 64 (a ||| b)).toNat
  simp only [BitVec.toNat_ofNat]
  rw [Nat.or_mod_two_pow]
theorem sh63 : ∀ k, k < 64 → ((nI k).toInt64 &&& 63) = lN k := by decide +kernel
theorem sm63 : ∀ k, k < 64 → ((lN k).toBitVec.smod 64) = BitVec.ofNat 64 k := by decide +kernel
theorem lN_shr {a d : Nat} {D : Int64} (hD : (D.toBitVec.smod 64).toNat = d) (h : a < 2 ^ 62) : lN a >>> D = lN (a / 2 ^ d) := by
  have hd : a / 2 ^ d ≤ a := Nat.div_le_self _ _
  apply Int64.toInt_inj.mp
  have e : (lN a >>> D).toInt = (lN a).toInt >>> d := by
    rw [← hD]
    exact BitVec.toInt_sshiftRight ..
  rw [e, Int.shiftRight_eq_div_pow, lN_I (by omega), lN_I (by omega)]
  rfl
theorem lN_shl {a k : Nat} {y : Int64} (hy : y.toBitVec.smod 64 = BitVec.ofNat 64 k) (hk : k < 64) (ha : a < 2 ^ 64) : lN a <<< y = lN (a * 2 ^ k) := by
  apply Int64.toBitVec_inj.mp
  rw [Int64.toBitVec_shiftLeft, hy]
  apply BitVec.eq_of_toNat_eq
  have hb : (lN a).toBitVec.toNat = a := Nat.mod_eq_of_lt ha
  have hk' : (BitVec.ofNat 64 k).toNat = k := Nat.mod_eq_of_lt (by omega)
  have h : ((lN a).toBitVec <<< BitVec.ofNat 64 k).toNat = (a * 2 ^ k) % 2 ^ 64 := by simp only [BitVec.shiftLeft_eq', BitVec.toNat_shiftLeft, hb, hk', Nat.shiftLeft_eq]
  exact h
theorem lshr_n {a k : Nat} (ha : a < 2 ^ 62) (hk : k < 64) : lshr a k = ((a / 2 ^ k : Nat) : Int) := by
  have hd : a / 2 ^ k ≤ a := Nat.div_le_self _ _
  rw [lshr, ofNL, ofN, sh63 k hk, lN_shr (d := k) (by rw [sm63 k hk]; exact Nat.mod_eq_of_lt (by omega)) ha, lN_I (by omega)]
theorem lshl_n {a k : Nat} (hk : k < 64) (h : a * 2 ^ k < 2 ^ 63) (ha : a < 2 ^ 63) : lshl a k = ((a * 2 ^ k : Nat) : Int) := by
  rw [lshl, ofNL, ofN, sh63 k hk, lN_shl (sm63 k hk) hk (by omega), lN_I h]
theorem land_n {a b : Nat} (ha : a < 2 ^ 63) : land a b = ((a &&& b : Nat) : Int) := by
  rw [land, ofNL, ofNL, lN_and, lN_I (Nat.lt_of_le_of_lt Nat.and_le_left ha)]
theorem lor_n {a b : Nat} (ha : a < 2 ^ 63) (hb : b < 2 ^ 63) : lor a b = ((a ||| b : Nat) : Int) := by
  rw [lor, ofNL, ofNL, lN_or, lN_I (Nat.or_lt_two_pow ha hb)]
theorem land30 (h : 0 ≤ x ∧ x < 4611686018427387904) : land x 1073741823 = x % 1073741824 := by
  obtain ⟨n, rfl⟩ : ∃ n : Nat, x = n := ⟨x.toNat, (Int.toNat_of_nonneg h.1).symm⟩
  have e := land_n (a := n) (b := 2 ^ 30 - 1) (by omega)
  rw [Nat.and_two_pow_sub_one_eq_mod] at e
  have e2 : (((2 ^ 30 - 1 : Nat)) : Int) = 1073741823 := by decide
  rw [e2] at e
  rw [e]; omega
theorem lshr30 (h : 0 ≤ x ∧ x < 4611686018427387904) : lshr x 30 = x / 1073741824 := by
  obtain ⟨n, rfl⟩ : ∃ n : Nat, x = n := ⟨x.toNat, (Int.toNat_of_nonneg h.1).symm⟩
  have e := lshr_n (a := n) (k := 30) (by omega) (by omega)
  have e2 : ((30 : Nat) : Int) = 30 := by decide
  rw [e2] at e
  rw [e]; omega
theorem lshl30 (h : 0 ≤ x ∧ x < 4294967296) : lshl x 30 = x * 1073741824 := by
  obtain ⟨n, rfl⟩ : ∃ n : Nat, x = n := ⟨x.toNat, (Int.toNat_of_nonneg h.1).symm⟩
  have e := lshl_n (a := n) (k := 30) (by omega) (by omega) (by omega)
  have e2 : ((30 : Nat) : Int) = 30 := by decide
  rw [e2] at e
  rw [e]; omega
theorem lor30 {a : Int} (h : 0 ≤ x ∧ x < 4294967296) (ha : 0 ≤ a ∧ a < 1073741824) : lor (x * 1073741824) a = x * 1073741824 + a := by
  obtain ⟨n, rfl⟩ : ∃ n : Nat, x = n := ⟨x.toNat, (Int.toNat_of_nonneg h.1).symm⟩
  obtain ⟨m, rfl⟩ : ∃ m : Nat, a = m := ⟨a.toNat, (Int.toNat_of_nonneg ha.1).symm⟩
  have e := lor_n (a := n * 2 ^ 30) (b := m) (by omega) (by omega)
  rw [← Nat.shiftLeft_eq, ← Nat.shiftLeft_add_eq_or_of_lt (show m < 2 ^ 30 by omega), Nat.shiftLeft_eq] at e
  have e2 : ((n * 2 ^ 30 : Nat) : Int) = (n : Int) * 1073741824 := by omega
  rw [Int.natCast_add, e2] at e
  exact e
theorem lrem_pos {y : Int} (hx : 0 ≤ x ∧ x < 4611686018427387904) (hy : 0 < y ∧ y < 4611686018427387904) : lrem x y = x % y := by
  rw [lrem_tmod, i64_id ⟨by omega, by omega⟩, i64_id ⟨by omega, by omega⟩, Int.tmod_eq_emod_of_nonneg hx.1]
theorem ldiv_pos {y : Int} (hx : 0 ≤ x ∧ x < 4611686018427387904) (hy : 0 < y ∧ y < 4611686018427387904) : ldiv x y = x / y := by
  have e : (Int64.ofInt x / Int64.ofInt y).toInt = (Int64.ofInt x).toInt.tdiv (Int64.ofInt y).toInt := by
    rw [Int64.toInt_div_of_ne_right]
    intro q
    have q' := congrArg Int64.toInt q
    rw [i64_id ⟨by omega, by omega⟩] at q'
    have : (-1 : Int64).toInt = -1 := by decide
    omega
  rw [ldiv, e, i64_id ⟨by omega, by omega⟩, i64_id ⟨by omega, by omega⟩, Int.tdiv_eq_ediv_of_nonneg hx.1]
end
