/-! Numbers: the machine's arithmetic is that of the whole numbers where nothing overflows. -/
theorem i32_add (x y : Int) : Int32.ofInt x + Int32.ofInt y = Int32.ofInt (x + y) := (Int32.ofInt_add x y).symm
theorem iadd_eq {x y : Int} (h : -2147483648 ≤ x + y ∧ x + y ≤ 2147483647) : iadd x y = x + y := by
  rw [iadd, i32_add, i32_id h]
theorem isub_eq {x y : Int} (h : -2147483648 ≤ x - y ∧ x - y ≤ 2147483647) : isub x y = x - y := by
  rw [isub, ← Int32.ofInt_sub, i32_id h]
theorem imul_eq {x y : Int} (h : -2147483648 ≤ x * y ∧ x * y ≤ 2147483647) : imul x y = x * y := by
  rw [imul, ← Int32.ofInt_mul, i32_id h]
theorem ineg_eq {x : Int} (h : -2147483648 ≤ -x ∧ -x ≤ 2147483647) : ineg x = -x := by
  rw [ineg, ← Int32.ofInt_neg, i32_id h]
theorem idiv_eq {x y : Int} (hx : 0 ≤ x ∧ x ≤ 2147483647) (hy : 0 < y ∧ y ≤ 2147483647) : idiv x y = x / y := by
  have e : (Int32.ofInt x / Int32.ofInt y).toInt = (Int32.ofInt x).toInt.tdiv (Int32.ofInt y).toInt := by
    rw [Int32.toInt_div_of_ne_right]
    intro q
    have q : Int32.ofInt y = Int32.ofInt (-1) := q
    have := (i32_eq (x := y) (y := -1) ⟨by omega, by omega⟩ ⟨by decide, by decide⟩).mp q
    omega
  rw [idiv, e, i32_id ⟨by omega, by omega⟩, i32_id ⟨by omega, by omega⟩, Int.tdiv_eq_ediv_of_nonneg hx.1]
theorem irem_eq {x y : Int} (hx : 0 ≤ x ∧ x ≤ 2147483647) (hy : 0 < y ∧ y ≤ 2147483647) : irem x y = x % y := by
  rw [irem, rem_toInt, i32_id ⟨by omega, by omega⟩, i32_id ⟨by omega, by omega⟩, Int.tmod_eq_emod_of_nonneg hx.1]
theorem ladd_eq {x y : Int} (h : -9223372036854775808 ≤ x + y ∧ x + y ≤ 9223372036854775807) : ladd x y = x + y := by
  rw [ladd, ← Int64.ofInt_add, i64_id h]
theorem lsub_eq {x y : Int} (h : -9223372036854775808 ≤ x - y ∧ x - y ≤ 9223372036854775807) : lsub x y = x - y := by
  rw [lsub, ← Int64.ofInt_sub, i64_id h]
theorem lmul_eq {x y : Int} (h : -9223372036854775808 ≤ x * y ∧ x * y ≤ 9223372036854775807) : lmul x y = x * y := by
  rw [lmul, ← Int64.ofInt_mul, i64_id h]
theorem bv32 {x : Int} (hx : ok32 x) : (Int32.ofInt x).toBitVec.toNat = (x % 4294967296).toNat := by
  have h := i32_id hx
  rw [← Int32.toInt_toBitVec, BitVec.toInt_eq_toNat_cond] at h
  have hlt := (Int32.ofInt x).toBitVec.isLt
  split at h <;> omega
/-- low bits -/
theorem iand_low {x m : Int} (k : Nat) (hx : ok32 x) (hm : (Int32.ofInt m).toBitVec.toNat = 2 ^ k - 1) (hk : k ≤ 30) : iand x m = x % 2 ^ k := by
  rw [iand, pk_and _ k hm]
  have h1 : (Int32.ofInt x).toBitVec.toNat % 2 ^ k < 2 ^ 31 := by
    have : 2 ^ k ≤ 2 ^ 30 := Nat.pow_le_pow_right (by decide) hk
    have := Nat.mod_lt (Int32.ofInt x).toBitVec.toNat (show 0 < 2 ^ k from Nat.two_pow_pos k)
    omega
  rw [nI_toInt h1, bv32 hx]
  have h2 : (((x % 4294967296).toNat : Nat) : Int) = x % 4294967296 := Int.toNat_of_nonneg (Int.emod_nonneg _ (by decide))
  rw [Int.natCast_emod, h2]
  have hd : ((2 ^ k : Nat) : Int) ∣ 4294967296 := by
    have h3 : (2 ^ k : Nat) ∣ 4294967296 := (show (4294967296 : Nat) = 2 ^ 32 by decide) ▸ Nat.pow_dvd_pow 2 (by omega)
    exact Int.natCast_dvd_natCast.mpr h3
  rw [Int.emod_emod_of_dvd _ hd]
  simp
theorem iand_1 {x : Int} (hx : -2147483648 ≤ x ∧ x ≤ 2147483647) : iand x 1 = x % 2 := iand_low 1 hx (by decide) (by decide)
theorem iand_3 {x : Int} (hx : -2147483648 ≤ x ∧ x ≤ 2147483647) : iand x 3 = x % 4 := iand_low 2 hx (by decide) (by decide)
theorem iand_7 {x : Int} (hx : -2147483648 ≤ x ∧ x ≤ 2147483647) : iand x 7 = x % 8 := iand_low 3 hx (by decide) (by decide)
theorem iand_15 {x : Int} (hx : -2147483648 ≤ x ∧ x ≤ 2147483647) : iand x 15 = x % 16 := iand_low 4 hx (by decide) (by decide)
theorem iand_31 {x : Int} (hx : -2147483648 ≤ x ∧ x ≤ 2147483647) : iand x 31 = x % 32 := iand_low 5 hx (by decide) (by decide)
theorem iand_255 {x : Int} (hx : -2147483648 ≤ x ∧ x ≤ 2147483647) : iand x 255 = x % 256 := iand_low 8 hx (by decide) (by decide)
theorem iand_1023 {x : Int} (hx : -2147483648 ≤ x ∧ x ≤ 2147483647) : iand x 1023 = x % 1024 := iand_low 10 hx (by decide) (by decide)
/-- bits of numbers from 0 on -/
theorem ofN (n : Nat) : Int32.ofInt (n : Int) = nI n := by
  show Int32.ofInt (n : Int) = Int32.ofNat n
  rw [Int32.ofInt_eq_ofNat]
theorem nI_and (a b : Nat) : nI a &&& nI b = nI (a &&& b) := by
  apply Int32.toBitVec_inj.mp
  rw [Int32.toBitVec_and]
  apply BitVec.eq_of_toNat_eq
  rw [BitVec.toNat_and]
  show (BitVec.ofNat 32 a).toNat &&& (BitVec.ofNat 32 b).toNat = (BitVec.ofNat 32 (a &&& b)).toNat
  simp only [BitVec.toNat_ofNat]
  rw [Nat.and_mod_two_pow]
theorem nI_or (a b : Nat) : nI a ||| nI b = nI (a ||| b) := by
  apply Int32.toBitVec_inj.mp
  rw [Int32.toBitVec_or]
  apply BitVec.eq_of_toNat_eq
  rw [BitVec.toNat_or]
  show (BitVec.ofNat 32 a).toNat ||| (BitVec.ofNat 32 b).toNat = (BitVec.ofNat 32 (a ||| b)).toNat
  simp only [BitVec.toNat_ofNat]
  rw [Nat.or_mod_two_pow]
theorem iand_n {a b : Nat} (ha : a < 2 ^ 31) : iand a b = ((a &&& b : Nat) : Int) := by
  rw [iand, ofN, ofN, nI_and, nI_toInt]
  exact Nat.lt_of_le_of_lt Nat.and_le_left ha
theorem ior_n {a b : Nat} (ha : a < 2 ^ 31) (hb : b < 2 ^ 31) : ior a b = ((a ||| b : Nat) : Int) := by
  rw [ior, ofN, ofN, nI_or, nI_toInt (Nat.or_lt_two_pow ha hb)]
theorem smod31 {k : Nat} (hk : k < 32) : ((nI k &&& (31 : Int32)).toBitVec.smod 32).toNat = k := by
  have e : nI k &&& (31 : Int32) = nI k := by
    rw [show (31 : Int32) = nI 31 from rfl, nI_and]
    congr 1
    rw [show (31 : Nat) = 2 ^ 5 - 1 from rfl, Nat.and_two_pow_sub_one_eq_mod]
    omega
  rw [e]
  have h : ∀ k, k < 32 → ((nI k).toBitVec.smod 32).toNat = k := by decide +kernel
  exact h k hk
theorem ishr_n {a k : Nat} (ha : a < 2 ^ 31) (hk : k < 32) : ishr a k = ((a / 2 ^ k : Nat) : Int) := by
  rw [ishr, ofN, ofN, pk_shrN ha _ k (smod31 hk), nI_toInt]
  exact Nat.lt_of_le_of_lt (Nat.div_le_self _ _) ha
theorem ishl_n {a k : Nat} (hk : k < 32) (h : a * 2 ^ k < 2 ^ 31) : ishl a k = ((a * 2 ^ k : Nat) : Int) := by
  rw [ishl, ofN, ofN, pk_shlN _ k (smod31 hk) (by omega), nI_toInt h]
theorem iand_z {x : Int} (h0 : 0 ≤ x) : ((x.toNat : Nat) : Int) = x := Int.toNat_of_nonneg h0
theorem pushR_s (v : AV) (S : List AV) : pushR (some v) S = v :: S := rfl
theorem pushR_n (S : List AV) : pushR none S = S := rfl
theorem call_to {d z n : Nat} {args L : List AV} {I : MM} (hn : mL z = n) (h1 : (flat args).length ≤ n) (h2 : entL n args = L) : call (d + 1) z args I = runs (call d) z 0 L [] I := by
  rw [call, hn, if_pos h1, h2]
/-! Entries: a call is its method's run (printed by gen26.py). -/
section PRINTED
variable {d : Nat} {I : MM} {x0 x1 x2 x3 x4 x5 x6 x7 x8 x9 : Int}
theorem en0 : call (d + 1) 0 [vR 10, vI x0] I = runs (call d) 0 0 [vR 10, vI x0] [] I := call_to mL_0 (Nat.le_of_ble_eq_true rfl) rfl
theorem en1 : call (d + 1) 1 [vR 2, vR 10] I = runs (call d) 1 0 [vR 2, vR 10] [] I := call_to mL_1 (Nat.le_of_ble_eq_true rfl) rfl
theorem en1a : call (d + 1) 1 [vR 2, vR 41] I = runs (call d) 1 0 [vR 2, vR 41] [] I := call_to mL_1 (Nat.le_of_ble_eq_true rfl) rfl
theorem en1b : call (d + 1) 1 [vR 2, vR 56] I = runs (call d) 1 0 [vR 2, vR 56] [] I := call_to mL_1 (Nat.le_of_ble_eq_true rfl) rfl
theorem en1c : call (d + 1) 1 [vR 41, vR 2] I = runs (call d) 1 0 [vR 41, vR 2] [] I := call_to mL_1 (Nat.le_of_ble_eq_true rfl) rfl
theorem en1d : call (d + 1) 1 [vR 56, vR 2] I = runs (call d) 1 0 [vR 56, vR 2] [] I := call_to mL_1 (Nat.le_of_ble_eq_true rfl) rfl
theorem en2 : call (d + 1) 2 [vR 10, vI x0, vI x1, vI x2] I = runs (call d) 2 0 [vR 10, vI x0, vI x1, vI x2] [] I := call_to mL_2 (Nat.le_of_ble_eq_true rfl) rfl
theorem en3 : call (d + 1) 3 [vR 10, vI x0, vI x1, vI x2, vI x3] I = runs (call d) 3 0 [vR 10, vI x0, vI x1, vI x2, vI x3, vR 0] [] I := call_to mL_3 (Nat.le_of_ble_eq_true rfl) rfl
theorem en4 : call (d + 1) 4 [vR 2, vI x0] I = runs (call d) 4 0 [vR 2, vI x0] [] I := call_to mL_4 (Nat.le_of_ble_eq_true rfl) rfl
theorem en5 : call (d + 1) 5 [vR 2, vI x0] I = runs (call d) 5 0 [vR 2, vI x0] [] I := call_to mL_5 (Nat.le_of_ble_eq_true rfl) rfl
theorem en6 : call (d + 1) 6 [vR 2, vI x0] I = runs (call d) 6 0 [vR 2, vI x0] [] I := call_to mL_6 (Nat.le_of_ble_eq_true rfl) rfl
theorem en7 : call (d + 1) 7 [vR 2, vI x0, vI x1] I = runs (call d) 7 0 [vR 2, vI x0, vI x1] [] I := call_to mL_7 (Nat.le_of_ble_eq_true rfl) rfl
theorem en7a : call (d + 1) 7 [vR 10, vI x0, vI x1] I = runs (call d) 7 0 [vR 10, vI x0, vI x1] [] I := call_to mL_7 (Nat.le_of_ble_eq_true rfl) rfl
theorem en8 : call (d + 1) 8 [vR 2, vI x0, vI x1] I = runs (call d) 8 0 [vR 2, vI x0, vI x1] [] I := call_to mL_8 (Nat.le_of_ble_eq_true rfl) rfl
theorem en8a : call (d + 1) 8 [vR 10, vI x0, vI x1] I = runs (call d) 8 0 [vR 10, vI x0, vI x1] [] I := call_to mL_8 (Nat.le_of_ble_eq_true rfl) rfl
theorem en9 : call (d + 1) 9 [vR 2, vI x0, vI x1] I = runs (call d) 9 0 [vR 2, vI x0, vI x1] [] I := call_to mL_9 (Nat.le_of_ble_eq_true rfl) rfl
theorem en10 : call (d + 1) 10 [vR 2, vI x0, vI x1, vI x2] I = runs (call d) 10 0 [vR 2, vI x0, vI x1, vI x2] [] I := call_to mL_10 (Nat.le_of_ble_eq_true rfl) rfl
theorem en10a : call (d + 1) 10 [vR 10, vI x0, vI x1, vI x2] I = runs (call d) 10 0 [vR 10, vI x0, vI x1, vI x2] [] I := call_to mL_10 (Nat.le_of_ble_eq_true rfl) rfl
theorem en11 : call (d + 1) 11 [vR 2, vI x0, vI x1, vI x2] I = runs (call d) 11 0 [vR 2, vI x0, vI x1, vI x2] [] I := call_to mL_11 (Nat.le_of_ble_eq_true rfl) rfl
theorem en11a : call (d + 1) 11 [vR 10, vI x0, vI x1, vI x2] I = runs (call d) 11 0 [vR 10, vI x0, vI x1, vI x2] [] I := call_to mL_11 (Nat.le_of_ble_eq_true rfl) rfl
theorem en12 : call (d + 1) 12 [vR 2, vI x0] I = runs (call d) 12 0 [vR 2, vI x0] [] I := call_to mL_12 (Nat.le_of_ble_eq_true rfl) rfl
theorem en13 : call (d + 1) 13 [vR 2, vI x0, vI x1] I = runs (call d) 13 0 [vR 2, vI x0, vI x1] [] I := call_to mL_13 (Nat.le_of_ble_eq_true rfl) rfl
theorem en14 : call (d + 1) 14 [vR 2, vI x0] I = runs (call d) 14 0 [vR 2, vI x0, vR 0, vR 0] [] I := call_to mL_14 (Nat.le_of_ble_eq_true rfl) rfl
theorem en15 : call (d + 1) 15 [vR 2, vI x0] I = runs (call d) 15 0 [vR 2, vI x0] [] I := call_to mL_15 (Nat.le_of_ble_eq_true rfl) rfl
theorem en16 : call (d + 1) 16 [vR 2, vI x0, vI x1] I = runs (call d) 16 0 [vR 2, vI x0, vI x1, vR 0] [] I := call_to mL_16 (Nat.le_of_ble_eq_true rfl) rfl
theorem en17 : call (d + 1) 17 [vR 2, vI x0] I = runs (call d) 17 0 [vR 2, vI x0, vR 0, vR 0, vR 0] [] I := call_to mL_17 (Nat.le_of_ble_eq_true rfl) rfl
theorem en17a : call (d + 1) 17 [vR 10, vI x0] I = runs (call d) 17 0 [vR 10, vI x0, vR 0, vR 0, vR 0] [] I := call_to mL_17 (Nat.le_of_ble_eq_true rfl) rfl
theorem en18 : call (d + 1) 18 [vR 2, vI x0, vI x1] I = runs (call d) 18 0 [vR 2, vI x0, vI x1] [] I := call_to mL_18 (Nat.le_of_ble_eq_true rfl) rfl
theorem en18a : call (d + 1) 18 [vR 10, vI x0, vI x1] I = runs (call d) 18 0 [vR 10, vI x0, vI x1] [] I := call_to mL_18 (Nat.le_of_ble_eq_true rfl) rfl
theorem en19 : call (d + 1) 19 [vR 2, vI x0, vI x1] I = runs (call d) 19 0 [vR 2, vI x0, vI x1] [] I := call_to mL_19 (Nat.le_of_ble_eq_true rfl) rfl
theorem en19a : call (d + 1) 19 [vR 10, vI x0, vI x1] I = runs (call d) 19 0 [vR 10, vI x0, vI x1] [] I := call_to mL_19 (Nat.le_of_ble_eq_true rfl) rfl
theorem en20 : call (d + 1) 20 [vR 2, vI x0, vI x1] I = runs (call d) 20 0 [vR 2, vI x0, vI x1, vR 0] [] I := call_to mL_20 (Nat.le_of_ble_eq_true rfl) rfl
theorem en20a : call (d + 1) 20 [vR 10, vI x0, vI x1] I = runs (call d) 20 0 [vR 10, vI x0, vI x1, vR 0] [] I := call_to mL_20 (Nat.le_of_ble_eq_true rfl) rfl
theorem en21 : call (d + 1) 21 [vR 2, vI x0] I = runs (call d) 21 0 [vR 2, vI x0, vR 0, vR 0] [] I := call_to mL_21 (Nat.le_of_ble_eq_true rfl) rfl
theorem en21a : call (d + 1) 21 [vR 10, vI x0] I = runs (call d) 21 0 [vR 10, vI x0, vR 0, vR 0] [] I := call_to mL_21 (Nat.le_of_ble_eq_true rfl) rfl
theorem en22 : call (d + 1) 22 [vR 2, vI x0, vI x1] I = runs (call d) 22 0 [vR 2, vI x0, vI x1] [] I := call_to mL_22 (Nat.le_of_ble_eq_true rfl) rfl
theorem en23 : call (d + 1) 23 [vR 2] I = runs (call d) 23 0 [vR 2] [] I := call_to mL_23 (Nat.le_of_ble_eq_true rfl) rfl
theorem en23a : call (d + 1) 23 [vR 10] I = runs (call d) 23 0 [vR 10] [] I := call_to mL_23 (Nat.le_of_ble_eq_true rfl) rfl
theorem en24 : call (d + 1) 24 [vR 2, vI x0] I = runs (call d) 24 0 [vR 2, vI x0, vR 0, vR 0] [] I := call_to mL_24 (Nat.le_of_ble_eq_true rfl) rfl
theorem en24a : call (d + 1) 24 [vR 10, vI x0] I = runs (call d) 24 0 [vR 10, vI x0, vR 0, vR 0] [] I := call_to mL_24 (Nat.le_of_ble_eq_true rfl) rfl
theorem en25 : call (d + 1) 25 [vR 2, vI x0, vI x1] I = runs (call d) 25 0 [vR 2, vI x0, vI x1] [] I := call_to mL_25 (Nat.le_of_ble_eq_true rfl) rfl
theorem en26 : call (d + 1) 26 [vR 2, vI x0, vI x1] I = runs (call d) 26 0 [vR 2, vI x0, vI x1, vR 0] [] I := call_to mL_26 (Nat.le_of_ble_eq_true rfl) rfl
theorem en27 : call (d + 1) 27 [vR 2, vI x0, vI x1] I = runs (call d) 27 0 [vR 2, vI x0, vI x1, vR 0, vR 0] [] I := call_to mL_27 (Nat.le_of_ble_eq_true rfl) rfl
theorem en28 : call (d + 1) 28 [vR 2, vI x0, vI x1] I = runs (call d) 28 0 [vR 2, vI x0, vI x1] [] I := call_to mL_28 (Nat.le_of_ble_eq_true rfl) rfl
theorem en29 : call (d + 1) 29 [vR 2, vI x0, vI x1, vI x2] I = runs (call d) 29 0 [vR 2, vI x0, vI x1, vI x2, vR 0, vR 0] [] I := call_to mL_29 (Nat.le_of_ble_eq_true rfl) rfl
theorem en29a : call (d + 1) 29 [vR 10, vI x0, vI x1, vI x2] I = runs (call d) 29 0 [vR 10, vI x0, vI x1, vI x2, vR 0, vR 0] [] I := call_to mL_29 (Nat.le_of_ble_eq_true rfl) rfl
theorem en30 : call (d + 1) 30 [vR 2, vI x0] I = runs (call d) 30 0 [vR 2, vI x0, vR 0, vR 0, vR 0, vR 0] [] I := call_to mL_30 (Nat.le_of_ble_eq_true rfl) rfl
theorem en30a : call (d + 1) 30 [vR 10, vI x0] I = runs (call d) 30 0 [vR 10, vI x0, vR 0, vR 0, vR 0, vR 0] [] I := call_to mL_30 (Nat.le_of_ble_eq_true rfl) rfl
theorem en31 : call (d + 1) 31 [vR 2, vI x0] I = runs (call d) 31 0 [vR 2, vI x0, vR 0, vR 0, vR 0] [] I := call_to mL_31 (Nat.le_of_ble_eq_true rfl) rfl
theorem en32 : call (d + 1) 32 [vR 2, vI x0, vI x1] I = runs (call d) 32 0 [vR 2, vI x0, vI x1, vR 0, vR 0, vR 0, vR 0, vR 0, vR 0, vR 0] [] I := call_to mL_32 (Nat.le_of_ble_eq_true rfl) rfl
theorem en33 : call (d + 1) 33 [vR 2, vI x0, vI x1, vI x2, vI x3] I = runs (call d) 33 0 [vR 2, vI x0, vI x1, vI x2, vI x3, vR 0] [] I := call_to mL_33 (Nat.le_of_ble_eq_true rfl) rfl
theorem en34 : call (d + 1) 34 [vR 2, vI x0, vI x1, vI x2, vI x3] I = runs (call d) 34 0 [vR 2, vI x0, vI x1, vI x2, vI x3, vR 0, vR 0, vR 0] [] I := call_to mL_34 (Nat.le_of_ble_eq_true rfl) rfl
theorem en35 : call (d + 1) 35 [vR 2, vI x0, vI x1, vI x2, vI x3, vI x4] I = runs (call d) 35 0 [vR 2, vI x0, vI x1, vI x2, vI x3, vI x4, vR 0, vR 0, vR 0] [] I := call_to mL_35 (Nat.le_of_ble_eq_true rfl) rfl
theorem en36 : call (d + 1) 36 [vR 2, vI x0, vI x1, vI x2] I = runs (call d) 36 0 [vR 2, vI x0, vI x1, vI x2, vR 0, vR 0, vR 0, vR 0] [] I := call_to mL_36 (Nat.le_of_ble_eq_true rfl) rfl
theorem en37 : call (d + 1) 37 [vR 2, vI x0, vI x1, vI x2, vI x3] I = runs (call d) 37 0 [vR 2, vI x0, vI x1, vI x2, vI x3, vR 0, vR 0] [] I := call_to mL_37 (Nat.le_of_ble_eq_true rfl) rfl
theorem en38 : call (d + 1) 38 [vR 2, vL x0] I = runs (call d) 38 0 [vR 2, vL x0, vR 0, vR 0, vR 0, vR 0] [] I := call_to mL_38 (Nat.le_of_ble_eq_true rfl) rfl
theorem en39 : call (d + 1) 39 [vR 36, vI x0, vI x1, vI x2] I = runs (call d) 39 0 [vR 36, vI x0, vI x1, vI x2, vR 0, vR 0, vR 0] [] I := call_to mL_39 (Nat.le_of_ble_eq_true rfl) rfl
theorem en40 : call (d + 1) 40 [vR 36, vR 37, vL x0] I = runs (call d) 40 0 [vR 36, vR 37, vL x0, vR 0, vR 0] [] I := call_to mL_40 (Nat.le_of_ble_eq_true rfl) rfl
theorem en40a : call (d + 1) 40 [vR 36, vR 38, vL x0] I = runs (call d) 40 0 [vR 36, vR 38, vL x0, vR 0, vR 0] [] I := call_to mL_40 (Nat.le_of_ble_eq_true rfl) rfl
theorem en40b : call (d + 1) 40 [vR 36, vR 39, vL x0] I = runs (call d) 40 0 [vR 36, vR 39, vL x0, vR 0, vR 0] [] I := call_to mL_40 (Nat.le_of_ble_eq_true rfl) rfl
theorem en41 : call (d + 1) 41 [vR 36, vR 38, vL x0] I = runs (call d) 41 0 [vR 36, vR 38, vL x0, vR 0, vR 0, vR 0, vR 0] [] I := call_to mL_41 (Nat.le_of_ble_eq_true rfl) rfl
theorem en41a : call (d + 1) 41 [vR 36, vR 39, vL x0] I = runs (call d) 41 0 [vR 36, vR 39, vL x0, vR 0, vR 0, vR 0, vR 0] [] I := call_to mL_41 (Nat.le_of_ble_eq_true rfl) rfl
theorem en42 : call (d + 1) 42 [vR 36, vI x0, vI x1] I = runs (call d) 42 0 [vR 36, vI x0, vI x1, vR 0] [] I := call_to mL_42 (Nat.le_of_ble_eq_true rfl) rfl
theorem en43 : call (d + 1) 43 [vR 36] I = runs (call d) 43 0 [vR 36, vR 0, vR 0, vR 0] [] I := call_to mL_43 (Nat.le_of_ble_eq_true rfl) rfl
theorem en44 : call (d + 1) 44 [vR 36, vI x0] I = runs (call d) 44 0 [vR 36, vI x0] [] I := call_to mL_44 (Nat.le_of_ble_eq_true rfl) rfl
theorem en45 : call (d + 1) 45 [vR 36, vI x0, vI x1] I = runs (call d) 45 0 [vR 36, vI x0, vI x1, vR 0] [] I := call_to mL_45 (Nat.le_of_ble_eq_true rfl) rfl
theorem en46 : call (d + 1) 46 [vR 36, vR 37, vI x0] I = runs (call d) 46 0 [vR 36, vR 37, vI x0, vR 0, vR 0, vR 0] [] I := call_to mL_46 (Nat.le_of_ble_eq_true rfl) rfl
theorem en46a : call (d + 1) 46 [vR 36, vR 38, vI x0] I = runs (call d) 46 0 [vR 36, vR 38, vI x0, vR 0, vR 0, vR 0] [] I := call_to mL_46 (Nat.le_of_ble_eq_true rfl) rfl
theorem en47 : call (d + 1) 47 [vR 36, vR 37, vI x0] I = runs (call d) 47 0 [vR 36, vR 37, vI x0, vR 0, vR 0, vR 0, vR 0, vR 0] [] I := call_to mL_47 (Nat.le_of_ble_eq_true rfl) rfl
theorem en47a : call (d + 1) 47 [vR 36, vR 38, vI x0] I = runs (call d) 47 0 [vR 36, vR 38, vI x0, vR 0, vR 0, vR 0, vR 0, vR 0] [] I := call_to mL_47 (Nat.le_of_ble_eq_true rfl) rfl
theorem en48 : call (d + 1) 48 [vR 36, vR 37] I = runs (call d) 48 0 [vR 36, vR 37, vR 0] [] I := call_to mL_48 (Nat.le_of_ble_eq_true rfl) rfl
theorem en48a : call (d + 1) 48 [vR 36, vR 38] I = runs (call d) 48 0 [vR 36, vR 38, vR 0] [] I := call_to mL_48 (Nat.le_of_ble_eq_true rfl) rfl
theorem en49 : call (d + 1) 49 [vR 36, vI x0] I = runs (call d) 49 0 [vR 36, vI x0] [] I := call_to mL_49 (Nat.le_of_ble_eq_true rfl) rfl
theorem en50 : call (d + 1) 50 [vR 36, vI x0] I = runs (call d) 50 0 [vR 36, vI x0] [] I := call_to mL_50 (Nat.le_of_ble_eq_true rfl) rfl
theorem en51 : call (d + 1) 51 [vR 36, vL x0] I = runs (call d) 51 0 [vR 36, vL x0, vR 0, vR 0, vR 0, vR 0] [] I := call_to mL_51 (Nat.le_of_ble_eq_true rfl) rfl
theorem en52 : call (d + 1) 52 [vR 34, vR 2, vR 21, vI x0] I = runs (call d) 52 0 [vR 34, vR 2, vR 21, vI x0, vR 0, vR 0, vR 0] [] I := call_to mL_52 (Nat.le_of_ble_eq_true rfl) rfl
theorem en53 : call (d + 1) 53 [vR 34, vR 2, vR 21, vI x0, vI x1] I = runs (call d) 53 0 [vR 34, vR 2, vR 21, vI x0, vI x1, vR 0, vR 0, vR 0] [] I := call_to mL_53 (Nat.le_of_ble_eq_true rfl) rfl
theorem en54 : call (d + 1) 54 [vR 34, vR 2, vI x0, vI x1] I = runs (call d) 54 0 [vR 34, vR 2, vI x0, vI x1, vR 0, vR 0] [] I := call_to mL_54 (Nat.le_of_ble_eq_true rfl) rfl
theorem en55 : call (d + 1) 55 [vR 34, vR 2, vI x0, vI x1] I = runs (call d) 55 0 [vR 34, vR 2, vI x0, vI x1, vR 0, vR 0, vR 0] [] I := call_to mL_55 (Nat.le_of_ble_eq_true rfl) rfl
theorem en56 : call (d + 1) 56 [vR 25, vI x0] I = runs (call d) 56 0 [vR 25, vI x0] [] I := call_to mL_56 (Nat.le_of_ble_eq_true rfl) rfl
theorem en57 : call (d + 1) 57 [vR 25] I = runs (call d) 57 0 [vR 25] [] I := call_to mL_57 (Nat.le_of_ble_eq_true rfl) rfl
theorem en58 : call (d + 1) 58 [vR 25, vR 53] I = runs (call d) 58 0 [vR 25, vR 53] [] I := call_to mL_58 (Nat.le_of_ble_eq_true rfl) rfl
theorem en58a : call (d + 1) 58 [vR 25, vR 68] I = runs (call d) 58 0 [vR 25, vR 68] [] I := call_to mL_58 (Nat.le_of_ble_eq_true rfl) rfl
theorem en58b : call (d + 1) 58 [vR 53, vR 25] I = runs (call d) 58 0 [vR 53, vR 25] [] I := call_to mL_58 (Nat.le_of_ble_eq_true rfl) rfl
theorem en58c : call (d + 1) 58 [vR 68, vR 25] I = runs (call d) 58 0 [vR 68, vR 25] [] I := call_to mL_58 (Nat.le_of_ble_eq_true rfl) rfl
theorem en59 : call (d + 1) 59 [vR 21, vI x0] I = runs (call d) 59 0 [vR 21, vI x0] [] I := call_to mL_59 (Nat.le_of_ble_eq_true rfl) rfl
theorem en60 : call (d + 1) 60 [vR 21] I = runs (call d) 60 0 [vR 21] [] I := call_to mL_60 (Nat.le_of_ble_eq_true rfl) rfl
theorem en61 : call (d + 1) 61 [vR 21, vR 49] I = runs (call d) 61 0 [vR 21, vR 49] [] I := call_to mL_61 (Nat.le_of_ble_eq_true rfl) rfl
theorem en61a : call (d + 1) 61 [vR 21, vR 64] I = runs (call d) 61 0 [vR 21, vR 64] [] I := call_to mL_61 (Nat.le_of_ble_eq_true rfl) rfl
theorem en61b : call (d + 1) 61 [vR 49, vR 21] I = runs (call d) 61 0 [vR 49, vR 21] [] I := call_to mL_61 (Nat.le_of_ble_eq_true rfl) rfl
theorem en61c : call (d + 1) 61 [vR 64, vR 21] I = runs (call d) 61 0 [vR 64, vR 21] [] I := call_to mL_61 (Nat.le_of_ble_eq_true rfl) rfl
theorem en62 : call (d + 1) 62 [vR 21] I = runs (call d) 62 0 [vR 21] [] I := call_to mL_62 (Nat.le_of_ble_eq_true rfl) rfl
theorem en63 : call (d + 1) 63 [vR 21, vI x0] I = runs (call d) 63 0 [vR 21, vI x0, vR 0] [] I := call_to mL_63 (Nat.le_of_ble_eq_true rfl) rfl
theorem en64 : call (d + 1) 64 [vR 21, vI x0] I = runs (call d) 64 0 [vR 21, vI x0, vR 0] [] I := call_to mL_64 (Nat.le_of_ble_eq_true rfl) rfl
theorem en65 : call (d + 1) 65 [vR 21, vI x0] I = runs (call d) 65 0 [vR 21, vI x0, vR 0] [] I := call_to mL_65 (Nat.le_of_ble_eq_true rfl) rfl
theorem en66 : call (d + 1) 66 [vR 21, vI x0] I = runs (call d) 66 0 [vR 21, vI x0, vR 0, vR 0] [] I := call_to mL_66 (Nat.le_of_ble_eq_true rfl) rfl
theorem en67 : call (d + 1) 67 [vR 21, vI x0] I = runs (call d) 67 0 [vR 21, vI x0, vR 0, vR 0] [] I := call_to mL_67 (Nat.le_of_ble_eq_true rfl) rfl
theorem en68 : call (d + 1) 68 [vR 21, vI x0] I = runs (call d) 68 0 [vR 21, vI x0, vR 0, vR 0, vR 0, vR 0] [] I := call_to mL_68 (Nat.le_of_ble_eq_true rfl) rfl
theorem en69 : call (d + 1) 69 [vR 21, vI x0] I = runs (call d) 69 0 [vR 21, vI x0, vR 0] [] I := call_to mL_69 (Nat.le_of_ble_eq_true rfl) rfl
theorem en70 : call (d + 1) 70 [vR 21] I = runs (call d) 70 0 [vR 21, vR 0, vR 0, vR 0] [] I := call_to mL_70 (Nat.le_of_ble_eq_true rfl) rfl
theorem en71 : call (d + 1) 71 [vR 21, vI x0] I = runs (call d) 71 0 [vR 21, vI x0] [] I := call_to mL_71 (Nat.le_of_ble_eq_true rfl) rfl
theorem en72 : call (d + 1) 72 [vR 21] I = runs (call d) 72 0 [vR 21] [] I := call_to mL_72 (Nat.le_of_ble_eq_true rfl) rfl
theorem en73 : call (d + 1) 73 [vR 21, vI x0] I = runs (call d) 73 0 [vR 21, vI x0] [] I := call_to mL_73 (Nat.le_of_ble_eq_true rfl) rfl
theorem en74 : call (d + 1) 74 [vR 21, vI x0] I = runs (call d) 74 0 [vR 21, vI x0] [] I := call_to mL_74 (Nat.le_of_ble_eq_true rfl) rfl
theorem en75 : call (d + 1) 75 [vR 21, vI x0] I = runs (call d) 75 0 [vR 21, vI x0] [] I := call_to mL_75 (Nat.le_of_ble_eq_true rfl) rfl
theorem en76 : call (d + 1) 76 [vR 21, vI x0] I = runs (call d) 76 0 [vR 21, vI x0] [] I := call_to mL_76 (Nat.le_of_ble_eq_true rfl) rfl
theorem en77 : call (d + 1) 77 [vR 21, vI x0] I = runs (call d) 77 0 [vR 21, vI x0] [] I := call_to mL_77 (Nat.le_of_ble_eq_true rfl) rfl
theorem en78 : call (d + 1) 78 [vR 21, vR 35] I = runs (call d) 78 0 [vR 21, vR 35, vR 0, vR 0, vR 0, vR 0] [] I := call_to mL_78 (Nat.le_of_ble_eq_true rfl) rfl
theorem en79 : call (d + 1) 79 [vR 21, vL x0] I = runs (call d) 79 0 [vR 21, vL x0, vR 0] [] I := call_to mL_79 (Nat.le_of_ble_eq_true rfl) rfl
theorem en80 : call (d + 1) 80 [vR 21] I = runs (call d) 80 0 [vR 21] [] I := call_to mL_80 (Nat.le_of_ble_eq_true rfl) rfl
theorem en81 : call (d + 1) 81 [vR 21, vI x0, vL x1, vL x2] I = runs (call d) 81 0 [vR 21, vI x0, vL x1, vR 0, vL x2, vR 0] [] I := call_to mL_81 (Nat.le_of_ble_eq_true rfl) rfl
theorem en82 : call (d + 1) 82 [vR 21, vL x0] I = runs (call d) 82 0 [vR 21, vL x0, vR 0, vR 0, vR 0, vR 0] [] I := call_to mL_82 (Nat.le_of_ble_eq_true rfl) rfl
theorem en83 : call (d + 1) 83 [vR 27] I = runs (call d) 83 0 [vR 27, vR 0] [] I := call_to mL_83 (Nat.le_of_ble_eq_true rfl) rfl
theorem en84 : call (d + 1) 84 [vR 27, vR 2] I = runs (call d) 84 0 [vR 27, vR 2] [] I := call_to mL_84 (Nat.le_of_ble_eq_true rfl) rfl
theorem en85 : call (d + 1) 85 [vR 27, vI x0] I = runs (call d) 85 0 [vR 27, vI x0, vR 0, vR 0] [] I := call_to mL_85 (Nat.le_of_ble_eq_true rfl) rfl
theorem en86 : call (d + 1) 86 [vR 27, vI x0] I = runs (call d) 86 0 [vR 27, vI x0] [] I := call_to mL_86 (Nat.le_of_ble_eq_true rfl) rfl
theorem en87 : call (d + 1) 87 [vR 27, vR 2, vI x0] I = runs (call d) 87 0 [vR 27, vR 2, vI x0, vR 0] [] I := call_to mL_87 (Nat.le_of_ble_eq_true rfl) rfl
theorem en88 : call (d + 1) 88 [vR 27, vR 2, vI x0] I = runs (call d) 88 0 [vR 27, vR 2, vI x0, vR 0, vR 0, vR 0] [] I := call_to mL_88 (Nat.le_of_ble_eq_true rfl) rfl
theorem en89 : call (d + 1) 89 [vR 27, vR 2, vI x0] I = runs (call d) 89 0 [vR 27, vR 2, vI x0, vR 0, vR 0, vR 0] [] I := call_to mL_89 (Nat.le_of_ble_eq_true rfl) rfl
theorem en90 : call (d + 1) 90 [vR 27, vR 2, vI x0] I = runs (call d) 90 0 [vR 27, vR 2, vI x0, vR 0, vR 0, vR 0, vR 0] [] I := call_to mL_90 (Nat.le_of_ble_eq_true rfl) rfl
theorem en91 : call (d + 1) 91 [vR 27, vI x0] I = runs (call d) 91 0 [vR 27, vI x0] [] I := call_to mL_91 (Nat.le_of_ble_eq_true rfl) rfl
theorem en92 : call (d + 1) 92 [vR 27, vR 2, vI x0, vI x1] I = runs (call d) 92 0 [vR 27, vR 2, vI x0, vI x1, vR 0] [] I := call_to mL_92 (Nat.le_of_ble_eq_true rfl) rfl
theorem en93 : call (d + 1) 93 [vR 27, vR 2, vI x0] I = runs (call d) 93 0 [vR 27, vR 2, vI x0, vR 0, vR 0] [] I := call_to mL_93 (Nat.le_of_ble_eq_true rfl) rfl
theorem en94 : call (d + 1) 94 [vR 27, vI x0] I = runs (call d) 94 0 [vR 27, vI x0] [] I := call_to mL_94 (Nat.le_of_ble_eq_true rfl) rfl
theorem en95 : call (d + 1) 95 [vR 35, vI x0] I = runs (call d) 95 0 [vR 35, vI x0] [] I := call_to mL_95 (Nat.le_of_ble_eq_true rfl) rfl
theorem en96 : call (d + 1) 96 [vR 18, vI x0] I = runs (call d) 96 0 [vR 18, vI x0] [] I := call_to mL_96 (Nat.le_of_ble_eq_true rfl) rfl
theorem en97 : call (d + 1) 97 [vR 18, vI x0] I = runs (call d) 97 0 [vR 18, vI x0] [] I := call_to mL_97 (Nat.le_of_ble_eq_true rfl) rfl
theorem en98 : call (d + 1) 98 [vR 20, vR 10] I = runs (call d) 98 0 [vR 20, vR 10, vR 0] [] I := call_to mL_98 (Nat.le_of_ble_eq_true rfl) rfl
theorem en99 : call (d + 1) 99 [vR 20, vR 10, vI x0] I = runs (call d) 99 0 [vR 20, vR 10, vI x0, vR 0, vR 0] [] I := call_to mL_99 (Nat.le_of_ble_eq_true rfl) rfl
theorem en100 : call (d + 1) 100 [vR 20, vR 10] I = runs (call d) 100 0 [vR 20, vR 10, vR 0, vR 0, vR 0, vR 0] [] I := call_to mL_100 (Nat.le_of_ble_eq_true rfl) rfl
theorem en101 : call (d + 1) 101 [vR 20, vI x0, vI x1] I = runs (call d) 101 0 [vR 20, vI x0, vI x1] [] I := call_to mL_101 (Nat.le_of_ble_eq_true rfl) rfl
theorem en102 : call (d + 1) 102 [vR 20] I = runs (call d) 102 0 [vR 20] [] I := call_to mL_102 (Nat.le_of_ble_eq_true rfl) rfl
theorem en103 : call (d + 1) 103 [vR 20] I = runs (call d) 103 0 [vR 20] [] I := call_to mL_103 (Nat.le_of_ble_eq_true rfl) rfl
theorem en104 : call (d + 1) 104 [vR 20] I = runs (call d) 104 0 [vR 20, vR 0] [] I := call_to mL_104 (Nat.le_of_ble_eq_true rfl) rfl
theorem en105 : call (d + 1) 105 [vR 20] I = runs (call d) 105 0 [vR 20] [] I := call_to mL_105 (Nat.le_of_ble_eq_true rfl) rfl
theorem en106 : call (d + 1) 106 [vR 20, vR 89] I = runs (call d) 106 0 [vR 20, vR 89, vR 0] [] I := call_to mL_106 (Nat.le_of_ble_eq_true rfl) rfl
theorem en106a : call (d + 1) 106 [vR 20, vR 90] I = runs (call d) 106 0 [vR 20, vR 90, vR 0] [] I := call_to mL_106 (Nat.le_of_ble_eq_true rfl) rfl
theorem en106b : call (d + 1) 106 [vR 20, vR 91] I = runs (call d) 106 0 [vR 20, vR 91, vR 0] [] I := call_to mL_106 (Nat.le_of_ble_eq_true rfl) rfl
theorem en106c : call (d + 1) 106 [vR 20, vR 92] I = runs (call d) 106 0 [vR 20, vR 92, vR 0] [] I := call_to mL_106 (Nat.le_of_ble_eq_true rfl) rfl
theorem en107 : call (d + 1) 107 [vR 20, vI x0] I = runs (call d) 107 0 [vR 20, vI x0] [] I := call_to mL_107 (Nat.le_of_ble_eq_true rfl) rfl
theorem en108 : call (d + 1) 108 [vR 20, vI x0] I = runs (call d) 108 0 [vR 20, vI x0] [] I := call_to mL_108 (Nat.le_of_ble_eq_true rfl) rfl
theorem en109 : call (d + 1) 109 [vR 1, vL x0, vI x1] I = runs (call d) 109 0 [vR 1, vL x0, vR 0, vI x1, vR 0] [] I := call_to mL_109 (Nat.le_of_ble_eq_true rfl) rfl
theorem en110 : call (d + 1) 110 [vR 1] I = runs (call d) 110 0 [vR 1, vR 0] [] I := call_to mL_110 (Nat.le_of_ble_eq_true rfl) rfl
theorem en111 : call (d + 1) 111 [vR 1] I = runs (call d) 111 0 [vR 1, vR 0] [] I := call_to mL_111 (Nat.le_of_ble_eq_true rfl) rfl
theorem en112 : call (d + 1) 112 [vR 1, vI x0] I = runs (call d) 112 0 [vR 1, vI x0] [] I := call_to mL_112 (Nat.le_of_ble_eq_true rfl) rfl
theorem en113 : call (d + 1) 113 [vR 1, vI x0] I = runs (call d) 113 0 [vR 1, vI x0] [] I := call_to mL_113 (Nat.le_of_ble_eq_true rfl) rfl
theorem en114 : call (d + 1) 114 [vR 1, vI x0, vI x1] I = runs (call d) 114 0 [vR 1, vI x0, vI x1] [] I := call_to mL_114 (Nat.le_of_ble_eq_true rfl) rfl
theorem en115 : call (d + 1) 115 [vR 1, vI x0, vI x1] I = runs (call d) 115 0 [vR 1, vI x0, vI x1] [] I := call_to mL_115 (Nat.le_of_ble_eq_true rfl) rfl
theorem en116 : call (d + 1) 116 [vR 1, vI x0] I = runs (call d) 116 0 [vR 1, vI x0, vR 0] [] I := call_to mL_116 (Nat.le_of_ble_eq_true rfl) rfl
theorem en117 : call (d + 1) 117 [vR 1, vI x0] I = runs (call d) 117 0 [vR 1, vI x0, vR 0] [] I := call_to mL_117 (Nat.le_of_ble_eq_true rfl) rfl
theorem en118 : call (d + 1) 118 [vR 1] I = runs (call d) 118 0 [vR 1] [] I := call_to mL_118 (Nat.le_of_ble_eq_true rfl) rfl
theorem en119 : call (d + 1) 119 [vR 1] I = runs (call d) 119 0 [vR 1] [] I := call_to mL_119 (Nat.le_of_ble_eq_true rfl) rfl
theorem en120 : call (d + 1) 120 [vR 1] I = runs (call d) 120 0 [vR 1] [] I := call_to mL_120 (Nat.le_of_ble_eq_true rfl) rfl
theorem en121 : call (d + 1) 121 [vR 1, vI x0] I = runs (call d) 121 0 [vR 1, vI x0, vR 0] [] I := call_to mL_121 (Nat.le_of_ble_eq_true rfl) rfl
theorem en122 : call (d + 1) 122 [vR 1, vI x0] I = runs (call d) 122 0 [vR 1, vI x0] [] I := call_to mL_122 (Nat.le_of_ble_eq_true rfl) rfl
theorem en123 : call (d + 1) 123 [vR 1, vI x0] I = runs (call d) 123 0 [vR 1, vI x0] [] I := call_to mL_123 (Nat.le_of_ble_eq_true rfl) rfl
theorem en124 : call (d + 1) 124 [vR 1, vI x0] I = runs (call d) 124 0 [vR 1, vI x0, vR 0, vR 0] [] I := call_to mL_124 (Nat.le_of_ble_eq_true rfl) rfl
theorem en125 : call (d + 1) 125 [vR 1, vI x0] I = runs (call d) 125 0 [vR 1, vI x0] [] I := call_to mL_125 (Nat.le_of_ble_eq_true rfl) rfl
theorem en126 : call (d + 1) 126 [vR 1] I = runs (call d) 126 0 [vR 1, vR 0] [] I := call_to mL_126 (Nat.le_of_ble_eq_true rfl) rfl
theorem en127 : call (d + 1) 127 [vR 1] I = runs (call d) 127 0 [vR 1] [] I := call_to mL_127 (Nat.le_of_ble_eq_true rfl) rfl
theorem en128 : call (d + 1) 128 [vR 1, vI x0, vI x1] I = runs (call d) 128 0 [vR 1, vI x0, vI x1] [] I := call_to mL_128 (Nat.le_of_ble_eq_true rfl) rfl
theorem en129 : call (d + 1) 129 [vR 1, vI x0, vI x1, vI x2] I = runs (call d) 129 0 [vR 1, vI x0, vI x1, vI x2] [] I := call_to mL_129 (Nat.le_of_ble_eq_true rfl) rfl
theorem en130 : call (d + 1) 130 [vR 1, vI x0] I = runs (call d) 130 0 [vR 1, vI x0] [] I := call_to mL_130 (Nat.le_of_ble_eq_true rfl) rfl
theorem en131 : call (d + 1) 131 [vR 1, vI x0, vI x1] I = runs (call d) 131 0 [vR 1, vI x0, vI x1] [] I := call_to mL_131 (Nat.le_of_ble_eq_true rfl) rfl
theorem en132 : call (d + 1) 132 [vR 1, vI x0] I = runs (call d) 132 0 [vR 1, vI x0, vR 0] [] I := call_to mL_132 (Nat.le_of_ble_eq_true rfl) rfl
theorem en133 : call (d + 1) 133 [vR 1, vI x0] I = runs (call d) 133 0 [vR 1, vI x0, vR 0] [] I := call_to mL_133 (Nat.le_of_ble_eq_true rfl) rfl
theorem en134 : call (d + 1) 134 [vR 1, vI x0] I = runs (call d) 134 0 [vR 1, vI x0] [] I := call_to mL_134 (Nat.le_of_ble_eq_true rfl) rfl
theorem en135 : call (d + 1) 135 [vR 1, vI x0] I = runs (call d) 135 0 [vR 1, vI x0] [] I := call_to mL_135 (Nat.le_of_ble_eq_true rfl) rfl
theorem en136 : call (d + 1) 136 [vR 1] I = runs (call d) 136 0 [vR 1, vR 0, vR 0, vR 0] [] I := call_to mL_136 (Nat.le_of_ble_eq_true rfl) rfl
theorem en137 : call (d + 1) 137 [vR 1, vI x0] I = runs (call d) 137 0 [vR 1, vI x0] [] I := call_to mL_137 (Nat.le_of_ble_eq_true rfl) rfl
theorem en138 : call (d + 1) 138 [vR 1, vI x0, vI x1] I = runs (call d) 138 0 [vR 1, vI x0, vI x1] [] I := call_to mL_138 (Nat.le_of_ble_eq_true rfl) rfl
theorem en139 : call (d + 1) 139 [vR 1, vI x0] I = runs (call d) 139 0 [vR 1, vI x0] [] I := call_to mL_139 (Nat.le_of_ble_eq_true rfl) rfl
theorem en140 : call (d + 1) 140 [vR 1, vI x0] I = runs (call d) 140 0 [vR 1, vI x0] [] I := call_to mL_140 (Nat.le_of_ble_eq_true rfl) rfl
theorem en141 : call (d + 1) 141 [vR 1, vI x0] I = runs (call d) 141 0 [vR 1, vI x0] [] I := call_to mL_141 (Nat.le_of_ble_eq_true rfl) rfl
theorem en142 : call (d + 1) 142 [vL x0, vL x1, vL x2] I = runs (call d) 142 0 [vL x0, vR 0, vL x1, vR 0, vL x2, vR 0] [] I := call_to mL_142 (Nat.le_of_ble_eq_true rfl) rfl
theorem en143 : call (d + 1) 143 [vR 70, vI x0] I = runs (call d) 143 0 [vR 70, vI x0] [] I := call_to mL_143 (Nat.le_of_ble_eq_true rfl) rfl
theorem en144 : call (d + 1) 144 [vR 70] I = runs (call d) 144 0 [vR 70] [] I := call_to mL_144 (Nat.le_of_ble_eq_true rfl) rfl
theorem en145 : call (d + 1) 145 [vR 70] I = runs (call d) 145 0 [vR 70] [] I := call_to mL_145 (Nat.le_of_ble_eq_true rfl) rfl
theorem en146 : call (d + 1) 146 [vR 70, vI x0, vL x1] I = runs (call d) 146 0 [vR 70, vI x0, vL x1, vR 0, vR 0, vR 0] [] I := call_to mL_146 (Nat.le_of_ble_eq_true rfl) rfl
theorem en147 : call (d + 1) 147 [vR 70, vI x0, vI x1] I = runs (call d) 147 0 [vR 70, vI x0, vI x1, vR 0] [] I := call_to mL_147 (Nat.le_of_ble_eq_true rfl) rfl
theorem en148 : call (d + 1) 148 [vR 70, vI x0] I = runs (call d) 148 0 [vR 70, vI x0] [] I := call_to mL_148 (Nat.le_of_ble_eq_true rfl) rfl
theorem en149 : call (d + 1) 149 [vR 70, vI x0, vL x1] I = runs (call d) 149 0 [vR 70, vI x0, vL x1, vR 0, vR 0, vR 0, vR 0, vR 0, vR 0] [] I := call_to mL_149 (Nat.le_of_ble_eq_true rfl) rfl
theorem en150 : call (d + 1) 150 [vR 70, vI x0, vI x1] I = runs (call d) 150 0 [vR 70, vI x0, vI x1, vR 0, vR 0, vR 0] [] I := call_to mL_150 (Nat.le_of_ble_eq_true rfl) rfl
theorem en151 : call (d + 1) 151 [vR 70, vI x0, vI x1] I = runs (call d) 151 0 [vR 70, vI x0, vI x1, vR 0, vR 0, vR 0, vR 0, vR 0, vR 0] [] I := call_to mL_151 (Nat.le_of_ble_eq_true rfl) rfl
theorem en152 : call (d + 1) 152 [vR 70, vI x0, vI x1] I = runs (call d) 152 0 [vR 70, vI x0, vI x1, vR 0, vR 0, vR 0, vR 0, vR 0] [] I := call_to mL_152 (Nat.le_of_ble_eq_true rfl) rfl
theorem en153 : call (d + 1) 153 [vR 70, vI x0] I = runs (call d) 153 0 [vR 70, vI x0, vR 0, vR 0, vR 0, vR 0, vR 0] [] I := call_to mL_153 (Nat.le_of_ble_eq_true rfl) rfl
theorem en154 : call (d + 1) 154 [vR 70, vI x0] I = runs (call d) 154 0 [vR 70, vI x0] [] I := call_to mL_154 (Nat.le_of_ble_eq_true rfl) rfl
theorem en155 : call (d + 1) 155 [vR 70, vI x0, vI x1] I = runs (call d) 155 0 [vR 70, vI x0, vI x1, vR 0, vR 0] [] I := call_to mL_155 (Nat.le_of_ble_eq_true rfl) rfl
theorem en156 : call (d + 1) 156 [vR 70, vI x0] I = runs (call d) 156 0 [vR 70, vI x0, vR 0, vR 0, vR 0, vR 0, vR 0] [] I := call_to mL_156 (Nat.le_of_ble_eq_true rfl) rfl
theorem en157 : call (d + 1) 157 [vR 70] I = runs (call d) 157 0 [vR 70] [] I := call_to mL_157 (Nat.le_of_ble_eq_true rfl) rfl
theorem en158 : call (d + 1) 158 [vR 70, vI x0, vI x1, vI x2] I = runs (call d) 158 0 [vR 70, vI x0, vI x1, vI x2] [] I := call_to mL_158 (Nat.le_of_ble_eq_true rfl) rfl
theorem en159 : call (d + 1) 159 [vR 70] I = runs (call d) 159 0 [vR 70] [] I := call_to mL_159 (Nat.le_of_ble_eq_true rfl) rfl
theorem en160 : call (d + 1) 160 [vR 70] I = runs (call d) 160 0 [vR 70] [] I := call_to mL_160 (Nat.le_of_ble_eq_true rfl) rfl
theorem en161 : call (d + 1) 161 [vR 70, vI x0] I = runs (call d) 161 0 [vR 70, vI x0] [] I := call_to mL_161 (Nat.le_of_ble_eq_true rfl) rfl
theorem en162 : call (d + 1) 162 [vR 70, vI x0] I = runs (call d) 162 0 [vR 70, vI x0] [] I := call_to mL_162 (Nat.le_of_ble_eq_true rfl) rfl
theorem en163 : call (d + 1) 163 [vR 70] I = runs (call d) 163 0 [vR 70] [] I := call_to mL_163 (Nat.le_of_ble_eq_true rfl) rfl
theorem en164 : call (d + 1) 164 [vR 70] I = runs (call d) 164 0 [vR 70, vR 0] [] I := call_to mL_164 (Nat.le_of_ble_eq_true rfl) rfl
theorem en165 : call (d + 1) 165 [vR 70] I = runs (call d) 165 0 [vR 70, vR 0] [] I := call_to mL_165 (Nat.le_of_ble_eq_true rfl) rfl
theorem en166 : call (d + 1) 166 [vI x0, vI x1] I = runs (call d) 166 0 [vI x0, vI x1] [] I := call_to mL_166 (Nat.le_of_ble_eq_true rfl) rfl
theorem en167 : call (d + 1) 167 [vR 70, vI x0] I = runs (call d) 167 0 [vR 70, vI x0] [] I := call_to mL_167 (Nat.le_of_ble_eq_true rfl) rfl
theorem en168 : call (d + 1) 168 [vR 70, vI x0] I = runs (call d) 168 0 [vR 70, vI x0, vR 0, vR 0] [] I := call_to mL_168 (Nat.le_of_ble_eq_true rfl) rfl
theorem en169 : call (d + 1) 169 [vR 70, vI x0] I = runs (call d) 169 0 [vR 70, vI x0] [] I := call_to mL_169 (Nat.le_of_ble_eq_true rfl) rfl
theorem en170 : call (d + 1) 170 [vR 70, vI x0, vI x1] I = runs (call d) 170 0 [vR 70, vI x0, vI x1] [] I := call_to mL_170 (Nat.le_of_ble_eq_true rfl) rfl
theorem en171 : call (d + 1) 171 [vR 70, vI x0] I = runs (call d) 171 0 [vR 70, vI x0, vR 0, vR 0] [] I := call_to mL_171 (Nat.le_of_ble_eq_true rfl) rfl
theorem en172 : call (d + 1) 172 [vR 70, vI x0] I = runs (call d) 172 0 [vR 70, vI x0] [] I := call_to mL_172 (Nat.le_of_ble_eq_true rfl) rfl
theorem en173 : call (d + 1) 173 [vR 70, vI x0] I = runs (call d) 173 0 [vR 70, vI x0, vR 0, vR 0] [] I := call_to mL_173 (Nat.le_of_ble_eq_true rfl) rfl
theorem en174 : call (d + 1) 174 [vR 70, vI x0] I = runs (call d) 174 0 [vR 70, vI x0] [] I := call_to mL_174 (Nat.le_of_ble_eq_true rfl) rfl
theorem en175 : call (d + 1) 175 [vR 70, vI x0] I = runs (call d) 175 0 [vR 70, vI x0, vR 0, vR 0] [] I := call_to mL_175 (Nat.le_of_ble_eq_true rfl) rfl
theorem en176 : call (d + 1) 176 [vR 70] I = runs (call d) 176 0 [vR 70, vR 0, vR 0] [] I := call_to mL_176 (Nat.le_of_ble_eq_true rfl) rfl
theorem en177 : call (d + 1) 177 [vR 70, vI x0] I = runs (call d) 177 0 [vR 70, vI x0] [] I := call_to mL_177 (Nat.le_of_ble_eq_true rfl) rfl
theorem en178 : call (d + 1) 178 [vR 70] I = runs (call d) 178 0 [vR 70, vR 0, vR 0] [] I := call_to mL_178 (Nat.le_of_ble_eq_true rfl) rfl
theorem en179 : call (d + 1) 179 [vI x0] I = runs (call d) 179 0 [vI x0] [] I := call_to mL_179 (Nat.le_of_ble_eq_true rfl) rfl
theorem en180 : call (d + 1) 180 [vR 70] I = runs (call d) 180 0 [vR 70] [] I := call_to mL_180 (Nat.le_of_ble_eq_true rfl) rfl
theorem en181 : call (d + 1) 181 [vR 70, vI x0] I = runs (call d) 181 0 [vR 70, vI x0, vR 0, vR 0] [] I := call_to mL_181 (Nat.le_of_ble_eq_true rfl) rfl
theorem en182 : call (d + 1) 182 [vR 70, vI x0, vI x1] I = runs (call d) 182 0 [vR 70, vI x0, vI x1, vR 0, vR 0] [] I := call_to mL_182 (Nat.le_of_ble_eq_true rfl) rfl
theorem en183 : call (d + 1) 183 [vR 70, vI x0, vI x1] I = runs (call d) 183 0 [vR 70, vI x0, vI x1, vR 0, vR 0, vR 0, vR 0] [] I := call_to mL_183 (Nat.le_of_ble_eq_true rfl) rfl
theorem en184 : call (d + 1) 184 [vR 70, vI x0, vI x1, vI x2] I = runs (call d) 184 0 [vR 70, vI x0, vI x1, vI x2] [] I := call_to mL_184 (Nat.le_of_ble_eq_true rfl) rfl
theorem en185 : call (d + 1) 185 [vR 70, vI x0, vI x1, vI x2] I = runs (call d) 185 0 [vR 70, vI x0, vI x1, vI x2, vR 0, vR 0, vR 0] [] I := call_to mL_185 (Nat.le_of_ble_eq_true rfl) rfl
theorem en186 : call (d + 1) 186 [vR 70, vI x0, vI x1, vI x2] I = runs (call d) 186 0 [vR 70, vI x0, vI x1, vI x2, vR 0] [] I := call_to mL_186 (Nat.le_of_ble_eq_true rfl) rfl
theorem en187 : call (d + 1) 187 [vR 70] I = runs (call d) 187 0 [vR 70, vR 0, vR 0] [] I := call_to mL_187 (Nat.le_of_ble_eq_true rfl) rfl
theorem en188 : call (d + 1) 188 [vR 70] I = runs (call d) 188 0 [vR 70] [] I := call_to mL_188 (Nat.le_of_ble_eq_true rfl) rfl
theorem en189 : call (d + 1) 189 [vR 70, vI x0] I = runs (call d) 189 0 [vR 70, vI x0] [] I := call_to mL_189 (Nat.le_of_ble_eq_true rfl) rfl
theorem en190 : call (d + 1) 190 [vR 70] I = runs (call d) 190 0 [vR 70, vR 0] [] I := call_to mL_190 (Nat.le_of_ble_eq_true rfl) rfl
theorem en191 : call (d + 1) 191 [vR 70] I = runs (call d) 191 0 [vR 70, vR 0] [] I := call_to mL_191 (Nat.le_of_ble_eq_true rfl) rfl
theorem en192 : call (d + 1) 192 [vR 70] I = runs (call d) 192 0 [vR 70] [] I := call_to mL_192 (Nat.le_of_ble_eq_true rfl) rfl
theorem en193 : call (d + 1) 193 [vR 70, vI x0] I = runs (call d) 193 0 [vR 70, vI x0] [] I := call_to mL_193 (Nat.le_of_ble_eq_true rfl) rfl
theorem en194 : call (d + 1) 194 [vR 70, vI x0] I = runs (call d) 194 0 [vR 70, vI x0] [] I := call_to mL_194 (Nat.le_of_ble_eq_true rfl) rfl
theorem en195 : call (d + 1) 195 [vR 70, vI x0] I = runs (call d) 195 0 [vR 70, vI x0, vR 0, vR 0] [] I := call_to mL_195 (Nat.le_of_ble_eq_true rfl) rfl
theorem en196 : call (d + 1) 196 [vR 70] I = runs (call d) 196 0 [vR 70, vR 0, vR 0] [] I := call_to mL_196 (Nat.le_of_ble_eq_true rfl) rfl
theorem en197 : call (d + 1) 197 [vR 70] I = runs (call d) 197 0 [vR 70] [] I := call_to mL_197 (Nat.le_of_ble_eq_true rfl) rfl
theorem en198 : call (d + 1) 198 [vR 70, vI x0] I = runs (call d) 198 0 [vR 70, vI x0, vR 0, vR 0] [] I := call_to mL_198 (Nat.le_of_ble_eq_true rfl) rfl
theorem en199 : call (d + 1) 199 [vR 70] I = runs (call d) 199 0 [vR 70, vR 0, vR 0] [] I := call_to mL_199 (Nat.le_of_ble_eq_true rfl) rfl
theorem en200 : call (d + 1) 200 [vR 70, vI x0] I = runs (call d) 200 0 [vR 70, vI x0, vR 0, vR 0] [] I := call_to mL_200 (Nat.le_of_ble_eq_true rfl) rfl
theorem en201 : call (d + 1) 201 [vR 70, vI x0] I = runs (call d) 201 0 [vR 70, vI x0, vR 0] [] I := call_to mL_201 (Nat.le_of_ble_eq_true rfl) rfl
theorem en202 : call (d + 1) 202 [vR 70, vI x0] I = runs (call d) 202 0 [vR 70, vI x0, vR 0] [] I := call_to mL_202 (Nat.le_of_ble_eq_true rfl) rfl
theorem en203 : call (d + 1) 203 [vR 70, vI x0] I = runs (call d) 203 0 [vR 70, vI x0, vR 0, vR 0, vR 0] [] I := call_to mL_203 (Nat.le_of_ble_eq_true rfl) rfl
theorem en204 : call (d + 1) 204 [vR 70, vI x0, vI x1] I = runs (call d) 204 0 [vR 70, vI x0, vI x1] [] I := call_to mL_204 (Nat.le_of_ble_eq_true rfl) rfl
theorem en205 : call (d + 1) 205 [vR 70] I = runs (call d) 205 0 [vR 70] [] I := call_to mL_205 (Nat.le_of_ble_eq_true rfl) rfl
theorem en206 : call (d + 1) 206 [vR 70] I = runs (call d) 206 0 [vR 70] [] I := call_to mL_206 (Nat.le_of_ble_eq_true rfl) rfl
theorem en207 : call (d + 1) 207 [vR 70, vI x0] I = runs (call d) 207 0 [vR 70, vI x0, vR 0, vR 0, vR 0] [] I := call_to mL_207 (Nat.le_of_ble_eq_true rfl) rfl
theorem en208 : call (d + 1) 208 [vR 70, vI x0, vI x1] I = runs (call d) 208 0 [vR 70, vI x0, vI x1, vR 0] [] I := call_to mL_208 (Nat.le_of_ble_eq_true rfl) rfl
theorem en209 : call (d + 1) 209 [vR 70, vI x0] I = runs (call d) 209 0 [vR 70, vI x0, vR 0, vR 0, vR 0, vR 0] [] I := call_to mL_209 (Nat.le_of_ble_eq_true rfl) rfl
theorem en210 : call (d + 1) 210 [vR 70, vI x0] I = runs (call d) 210 0 [vR 70, vI x0, vR 0] [] I := call_to mL_210 (Nat.le_of_ble_eq_true rfl) rfl
theorem en211 : call (d + 1) 211 [vR 70, vI x0] I = runs (call d) 211 0 [vR 70, vI x0] [] I := call_to mL_211 (Nat.le_of_ble_eq_true rfl) rfl
theorem en212 : call (d + 1) 212 [vR 70, vI x0] I = runs (call d) 212 0 [vR 70, vI x0, vR 0, vR 0, vR 0, vR 0, vR 0] [] I := call_to mL_212 (Nat.le_of_ble_eq_true rfl) rfl
theorem en213 : call (d + 1) 213 [vR 70, vI x0, vI x1] I = runs (call d) 213 0 [vR 70, vI x0, vI x1, vR 0, vR 0] [] I := call_to mL_213 (Nat.le_of_ble_eq_true rfl) rfl
theorem en214 : call (d + 1) 214 [vR 70, vL x0, vI x1] I = runs (call d) 214 0 [vR 70, vL x0, vR 0, vI x1, vR 0] [] I := call_to mL_214 (Nat.le_of_ble_eq_true rfl) rfl
theorem en215 : call (d + 1) 215 [vR 70] I = runs (call d) 215 0 [vR 70, vR 0] [] I := call_to mL_215 (Nat.le_of_ble_eq_true rfl) rfl
theorem en216 : call (d + 1) 216 [vI x0] I = runs (call d) 216 0 [vI x0] [] I := call_to mL_216 (Nat.le_of_ble_eq_true rfl) rfl
theorem en217 : call (d + 1) 217 [vI x0] I = runs (call d) 217 0 [vI x0] [] I := call_to mL_217 (Nat.le_of_ble_eq_true rfl) rfl
theorem en218 : call (d + 1) 218 [vR 70, vI x0] I = runs (call d) 218 0 [vR 70, vI x0, vR 0, vR 0, vR 0] [] I := call_to mL_218 (Nat.le_of_ble_eq_true rfl) rfl
theorem en219 : call (d + 1) 219 [vR 70] I = runs (call d) 219 0 [vR 70] [] I := call_to mL_219 (Nat.le_of_ble_eq_true rfl) rfl
theorem en220 : call (d + 1) 220 [vR 70, vI x0, vI x1, vI x2, vI x3, vI x4, vI x5] I = runs (call d) 220 0 [vR 70, vI x0, vI x1, vI x2, vI x3, vI x4, vI x5, vR 0, vR 0, vR 0] [] I := call_to mL_220 (Nat.le_of_ble_eq_true rfl) rfl
theorem en221 : call (d + 1) 221 [vR 70, vI x0, vI x1] I = runs (call d) 221 0 [vR 70, vI x0, vI x1] [] I := call_to mL_221 (Nat.le_of_ble_eq_true rfl) rfl
theorem en222 : call (d + 1) 222 [vR 70] I = runs (call d) 222 0 [vR 70, vR 0] [] I := call_to mL_222 (Nat.le_of_ble_eq_true rfl) rfl
theorem en223 : call (d + 1) 223 [vR 70] I = runs (call d) 223 0 [vR 70] [] I := call_to mL_223 (Nat.le_of_ble_eq_true rfl) rfl
theorem en224 : call (d + 1) 224 [vR 70] I = runs (call d) 224 0 [vR 70, vR 0, vR 0] [] I := call_to mL_224 (Nat.le_of_ble_eq_true rfl) rfl
theorem en225 : call (d + 1) 225 [vR 70] I = runs (call d) 225 0 [vR 70, vR 0, vR 0, vR 0] [] I := call_to mL_225 (Nat.le_of_ble_eq_true rfl) rfl
theorem en226 : call (d + 1) 226 [vR 70, vI x0, vI x1] I = runs (call d) 226 0 [vR 70, vI x0, vI x1, vR 0, vR 0] [] I := call_to mL_226 (Nat.le_of_ble_eq_true rfl) rfl
theorem en227 : call (d + 1) 227 [vR 70] I = runs (call d) 227 0 [vR 70] [] I := call_to mL_227 (Nat.le_of_ble_eq_true rfl) rfl
theorem en228 : call (d + 1) 228 [vR 70] I = runs (call d) 228 0 [vR 70, vR 0, vR 0] [] I := call_to mL_228 (Nat.le_of_ble_eq_true rfl) rfl
theorem en229 : call (d + 1) 229 [vR 70] I = runs (call d) 229 0 [vR 70, vR 0, vR 0, vR 0, vR 0] [] I := call_to mL_229 (Nat.le_of_ble_eq_true rfl) rfl
theorem en230 : call (d + 1) 230 [vR 70, vI x0] I = runs (call d) 230 0 [vR 70, vI x0] [] I := call_to mL_230 (Nat.le_of_ble_eq_true rfl) rfl
theorem en231 : call (d + 1) 231 [vR 70, vI x0] I = runs (call d) 231 0 [vR 70, vI x0] [] I := call_to mL_231 (Nat.le_of_ble_eq_true rfl) rfl
theorem en232 : call (d + 1) 232 [vR 70, vI x0, vI x1] I = runs (call d) 232 0 [vR 70, vI x0, vI x1] [] I := call_to mL_232 (Nat.le_of_ble_eq_true rfl) rfl
theorem en233 : call (d + 1) 233 [vR 70, vI x0, vI x1] I = runs (call d) 233 0 [vR 70, vI x0, vI x1] [] I := call_to mL_233 (Nat.le_of_ble_eq_true rfl) rfl
theorem en234 : call (d + 1) 234 [vR 70, vI x0] I = runs (call d) 234 0 [vR 70, vI x0] [] I := call_to mL_234 (Nat.le_of_ble_eq_true rfl) rfl
theorem en235 : call (d + 1) 235 [vR 70] I = runs (call d) 235 0 [vR 70, vR 0] [] I := call_to mL_235 (Nat.le_of_ble_eq_true rfl) rfl
theorem en236 : call (d + 1) 236 [vR 70] I = runs (call d) 236 0 [vR 70] [] I := call_to mL_236 (Nat.le_of_ble_eq_true rfl) rfl
theorem en237 : call (d + 1) 237 [vR 70, vI x0] I = runs (call d) 237 0 [vR 70, vI x0] [] I := call_to mL_237 (Nat.le_of_ble_eq_true rfl) rfl
theorem en238 : call (d + 1) 238 [vR 70] I = runs (call d) 238 0 [vR 70] [] I := call_to mL_238 (Nat.le_of_ble_eq_true rfl) rfl
theorem en239 : call (d + 1) 239 [vI x0] I = runs (call d) 239 0 [vI x0] [] I := call_to mL_239 (Nat.le_of_ble_eq_true rfl) rfl
theorem en240 : call (d + 1) 240 [vR 70] I = runs (call d) 240 0 [vR 70, vR 0, vR 0, vR 0, vR 0, vR 0, vR 0] [] I := call_to mL_240 (Nat.le_of_ble_eq_true rfl) rfl
theorem en241 : call (d + 1) 241 [vR 70, vI x0] I = runs (call d) 241 0 [vR 70, vI x0] [] I := call_to mL_241 (Nat.le_of_ble_eq_true rfl) rfl
theorem en242 : call (d + 1) 242 [vR 70, vL x0] I = runs (call d) 242 0 [vR 70, vL x0, vR 0, vR 0, vR 0] [] I := call_to mL_242 (Nat.le_of_ble_eq_true rfl) rfl
theorem en243 : call (d + 1) 243 [vI x0] I = runs (call d) 243 0 [vI x0] [] I := call_to mL_243 (Nat.le_of_ble_eq_true rfl) rfl
theorem en244 : call (d + 1) 244 [vI x0] I = runs (call d) 244 0 [vI x0] [] I := call_to mL_244 (Nat.le_of_ble_eq_true rfl) rfl
theorem en245 : call (d + 1) 245 [vR 70] I = runs (call d) 245 0 [vR 70, vR 0, vR 0, vR 0] [] I := call_to mL_245 (Nat.le_of_ble_eq_true rfl) rfl
theorem en246 : call (d + 1) 246 [vR 70] I = runs (call d) 246 0 [vR 70, vR 0, vR 0, vR 0, vR 0] [] I := call_to mL_246 (Nat.le_of_ble_eq_true rfl) rfl
theorem en247 : call (d + 1) 247 [vR 70] I = runs (call d) 247 0 [vR 70, vR 0] [] I := call_to mL_247 (Nat.le_of_ble_eq_true rfl) rfl
theorem en248 : call (d + 1) 248 [vR 70, vI x0, vI x1] I = runs (call d) 248 0 [vR 70, vI x0, vI x1, vR 0, vR 0, vR 0] [] I := call_to mL_248 (Nat.le_of_ble_eq_true rfl) rfl
theorem en249 : call (d + 1) 249 [vR 70, vI x0, vI x1] I = runs (call d) 249 0 [vR 70, vI x0, vI x1, vR 0, vR 0, vR 0, vR 0] [] I := call_to mL_249 (Nat.le_of_ble_eq_true rfl) rfl
theorem en250 : call (d + 1) 250 [vR 70, vI x0, vI x1, vI x2, vI x3] I = runs (call d) 250 0 [vR 70, vI x0, vI x1, vI x2, vI x3] [] I := call_to mL_250 (Nat.le_of_ble_eq_true rfl) rfl
theorem en251 : call (d + 1) 251 [vR 70, vI x0, vI x1, vI x2] I = runs (call d) 251 0 [vR 70, vI x0, vI x1, vI x2, vR 0, vR 0, vR 0, vR 0] [] I := call_to mL_251 (Nat.le_of_ble_eq_true rfl) rfl
theorem en252 : call (d + 1) 252 [vR 70, vI x0, vI x1] I = runs (call d) 252 0 [vR 70, vI x0, vI x1, vR 0, vR 0, vR 0, vR 0, vR 0] [] I := call_to mL_252 (Nat.le_of_ble_eq_true rfl) rfl
theorem en253 : call (d + 1) 253 [vR 70, vI x0] I = runs (call d) 253 0 [vR 70, vI x0, vR 0] [] I := call_to mL_253 (Nat.le_of_ble_eq_true rfl) rfl
theorem en254 : call (d + 1) 254 [vR 70, vI x0, vI x1] I = runs (call d) 254 0 [vR 70, vI x0, vI x1, vR 0, vR 0] [] I := call_to mL_254 (Nat.le_of_ble_eq_true rfl) rfl
theorem en255 : call (d + 1) 255 [vR 70, vI x0, vI x1, vI x2] I = runs (call d) 255 0 [vR 70, vI x0, vI x1, vI x2, vR 0, vR 0, vR 0, vR 0, vR 0] [] I := call_to mL_255 (Nat.le_of_ble_eq_true rfl) rfl
theorem en256 : call (d + 1) 256 [vR 70, vI x0] I = runs (call d) 256 0 [vR 70, vI x0] [] I := call_to mL_256 (Nat.le_of_ble_eq_true rfl) rfl
theorem en257 : call (d + 1) 257 [vR 70, vI x0, vI x1] I = runs (call d) 257 0 [vR 70, vI x0, vI x1] [] I := call_to mL_257 (Nat.le_of_ble_eq_true rfl) rfl
theorem en258 : call (d + 1) 258 [vR 70, vI x0] I = runs (call d) 258 0 [vR 70, vI x0, vR 0] [] I := call_to mL_258 (Nat.le_of_ble_eq_true rfl) rfl
theorem en259 : call (d + 1) 259 [vR 70, vI x0] I = runs (call d) 259 0 [vR 70, vI x0, vR 0] [] I := call_to mL_259 (Nat.le_of_ble_eq_true rfl) rfl
theorem en260 : call (d + 1) 260 [vR 70, vI x0] I = runs (call d) 260 0 [vR 70, vI x0] [] I := call_to mL_260 (Nat.le_of_ble_eq_true rfl) rfl
theorem en261 : call (d + 1) 261 [vR 70, vI x0] I = runs (call d) 261 0 [vR 70, vI x0] [] I := call_to mL_261 (Nat.le_of_ble_eq_true rfl) rfl
theorem en262 : call (d + 1) 262 [vR 70, vI x0] I = runs (call d) 262 0 [vR 70, vI x0] [] I := call_to mL_262 (Nat.le_of_ble_eq_true rfl) rfl
theorem en263 : call (d + 1) 263 [vR 70, vL x0, vI x1, vI x2] I = runs (call d) 263 0 [vR 70, vL x0, vR 0, vI x1, vI x2, vR 0, vR 0, vR 0] [] I := call_to mL_263 (Nat.le_of_ble_eq_true rfl) rfl
theorem en264 : call (d + 1) 264 [vR 70] I = runs (call d) 264 0 [vR 70, vR 0, vR 0, vR 0, vR 0] [] I := call_to mL_264 (Nat.le_of_ble_eq_true rfl) rfl
theorem en265 : call (d + 1) 265 [vL x0, vL x1] I = runs (call d) 265 0 [vL x0, vR 0, vL x1, vR 0, vR 0, vR 0] [] I := call_to mL_265 (Nat.le_of_ble_eq_true rfl) rfl
theorem en266 : call (d + 1) 266 [vR 89] I = runs (call d) 266 0 [vR 89] [] I := call_to mL_266 (Nat.le_of_ble_eq_true rfl) rfl
theorem en266a : call (d + 1) 266 [vR 90] I = runs (call d) 266 0 [vR 90] [] I := call_to mL_266 (Nat.le_of_ble_eq_true rfl) rfl
theorem en266b : call (d + 1) 266 [vR 91] I = runs (call d) 266 0 [vR 91] [] I := call_to mL_266 (Nat.le_of_ble_eq_true rfl) rfl
theorem en266c : call (d + 1) 266 [vR 92] I = runs (call d) 266 0 [vR 92] [] I := call_to mL_266 (Nat.le_of_ble_eq_true rfl) rfl
theorem en267 : call (d + 1) 267 [vR 89, vI x0] I = runs (call d) 267 0 [vR 89, vI x0] [] I := call_to mL_267 (Nat.le_of_ble_eq_true rfl) rfl
theorem en267a : call (d + 1) 267 [vR 90, vI x0] I = runs (call d) 267 0 [vR 90, vI x0] [] I := call_to mL_267 (Nat.le_of_ble_eq_true rfl) rfl
theorem en267b : call (d + 1) 267 [vR 91, vI x0] I = runs (call d) 267 0 [vR 91, vI x0] [] I := call_to mL_267 (Nat.le_of_ble_eq_true rfl) rfl
theorem en267c : call (d + 1) 267 [vR 92, vI x0] I = runs (call d) 267 0 [vR 92, vI x0] [] I := call_to mL_267 (Nat.le_of_ble_eq_true rfl) rfl
theorem en268 : call (d + 1) 268 [vR 89] I = runs (call d) 268 0 [vR 89] [] I := call_to mL_268 (Nat.le_of_ble_eq_true rfl) rfl
theorem en268a : call (d + 1) 268 [vR 90] I = runs (call d) 268 0 [vR 90] [] I := call_to mL_268 (Nat.le_of_ble_eq_true rfl) rfl
theorem en268b : call (d + 1) 268 [vR 91] I = runs (call d) 268 0 [vR 91] [] I := call_to mL_268 (Nat.le_of_ble_eq_true rfl) rfl
theorem en268c : call (d + 1) 268 [vR 92] I = runs (call d) 268 0 [vR 92] [] I := call_to mL_268 (Nat.le_of_ble_eq_true rfl) rfl
theorem en269 : call (d + 1) 269 [vR 89] I = runs (call d) 269 0 [vR 89] [] I := call_to mL_269 (Nat.le_of_ble_eq_true rfl) rfl
theorem en269a : call (d + 1) 269 [vR 90] I = runs (call d) 269 0 [vR 90] [] I := call_to mL_269 (Nat.le_of_ble_eq_true rfl) rfl
theorem en269b : call (d + 1) 269 [vR 91] I = runs (call d) 269 0 [vR 91] [] I := call_to mL_269 (Nat.le_of_ble_eq_true rfl) rfl
theorem en269c : call (d + 1) 269 [vR 92] I = runs (call d) 269 0 [vR 92] [] I := call_to mL_269 (Nat.le_of_ble_eq_true rfl) rfl
theorem en270 : call (d + 1) 270 [vI x0, vI x1] I = runs (call d) 270 0 [vI x0, vI x1] [] I := call_to mL_270 (Nat.le_of_ble_eq_true rfl) rfl
theorem en271 : call (d + 1) 271 [vR 93, vI x0] I = runs (call d) 271 0 [vR 93, vI x0] [] I := call_to mL_271 (Nat.le_of_ble_eq_true rfl) rfl
theorem en271a : call (d + 1) 271 [vR 94, vI x0] I = runs (call d) 271 0 [vR 94, vI x0] [] I := call_to mL_271 (Nat.le_of_ble_eq_true rfl) rfl
theorem en271b : call (d + 1) 271 [vR 95, vI x0] I = runs (call d) 271 0 [vR 95, vI x0] [] I := call_to mL_271 (Nat.le_of_ble_eq_true rfl) rfl
theorem en271c : call (d + 1) 271 [vR 96, vI x0] I = runs (call d) 271 0 [vR 96, vI x0] [] I := call_to mL_271 (Nat.le_of_ble_eq_true rfl) rfl
theorem en272 : call (d + 1) 272 [vI x0, vI x1, vR 99] I = runs (call d) 272 0 [vI x0, vI x1, vR 99] [] I := call_to mL_272 (Nat.le_of_ble_eq_true rfl) rfl
end PRINTED
