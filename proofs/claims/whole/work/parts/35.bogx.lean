/-! Class BogBoards$Bog: its methods over masks, in a bog g and a code c. -/
abbrev rng (j : Nat) (i : Int) : Prop := if j = 0 then 0 ≤ i ∧ i < 4 else if j ≤ 2 then 0 ≤ i ∧ i < 3 else 0 ≤ i ∧ i < 2
def At (k : Nat) (I : MM) (g : G) : Prop := ∀ j i, j < 8 → rng j i → I (k + j) i = g j i
theorem At.last {I : MM} {g : G} (h : At 2 I g) : I 2 0 = g.last := h 0 0 (by decide) (by decide)
theorem At.isl {I : MM} {g : G} (h : At 2 I g) : I 2 1 = g.isl := h 0 1 (by decide) (by decide)
theorem At.nW {I : MM} {g : G} (h : At 2 I g) : I 2 2 = g.nW := h 0 2 (by decide) (by decide)
theorem At.nB {I : MM} {g : G} (h : At 2 I g) : I 2 3 = g.nB := h 0 3 (by decide) (by decide)
theorem At.wt {I : MM} {g : G} (h : At 2 I g) (i : Int) (hi : 0 ≤ i ∧ i < 3) : I 3 i = g.wt i := h 1 i (by decide) hi
theorem At.gl {I : MM} {g : G} (h : At 2 I g) (i : Int) (hi : 0 ≤ i ∧ i < 3) : I 4 i = g.gl i := h 2 i (by decide) hi
theorem At.kd {I : MM} {g : G} (h : At 2 I g) (i : Int) (hi : 0 ≤ i ∧ i < 2) : I 5 i = g.kd i := h 3 i (by decide) hi
theorem At.ln {I : MM} {g : G} (h : At 2 I g) (i : Int) (hi : 0 ≤ i ∧ i < 2) : I 6 i = g.ln i := h 4 i (by decide) hi
theorem At.br {I : MM} {g : G} (h : At 2 I g) (i : Int) (hi : 0 ≤ i ∧ i < 2) : I 7 i = g.br i := h 5 i (by decide) hi
theorem At.sp {I : MM} {g : G} (h : At 2 I g) (i : Int) (hi : 0 ≤ i ∧ i < 2) : I 8 i = g.sp i := h 6 i (by decide) hi
theorem At.st {I : MM} {g : G} (h : At 2 I g) (i : Int) (hi : 0 ≤ i ∧ i < 2) : I 9 i = g.st i := h 7 i (by decide) hi
theorem At.last' {I : MM} {g : G} (h : At 10 I g) : I 10 0 = g.last := h 0 0 (by decide) (by decide)
theorem At.isl' {I : MM} {g : G} (h : At 10 I g) : I 10 1 = g.isl := h 0 1 (by decide) (by decide)
theorem At.nW' {I : MM} {g : G} (h : At 10 I g) : I 10 2 = g.nW := h 0 2 (by decide) (by decide)
theorem At.nB' {I : MM} {g : G} (h : At 10 I g) : I 10 3 = g.nB := h 0 3 (by decide) (by decide)
theorem At.wt' {I : MM} {g : G} (h : At 10 I g) (i : Int) (hi : 0 ≤ i ∧ i < 3) : I 11 i = g.wt i := h 1 i (by decide) hi
theorem At.gl' {I : MM} {g : G} (h : At 10 I g) (i : Int) (hi : 0 ≤ i ∧ i < 3) : I 12 i = g.gl i := h 2 i (by decide) hi
theorem At.kd' {I : MM} {g : G} (h : At 10 I g) (i : Int) (hi : 0 ≤ i ∧ i < 2) : I 13 i = g.kd i := h 3 i (by decide) hi
theorem At.ln' {I : MM} {g : G} (h : At 10 I g) (i : Int) (hi : 0 ≤ i ∧ i < 2) : I 14 i = g.ln i := h 4 i (by decide) hi
theorem At.br' {I : MM} {g : G} (h : At 10 I g) (i : Int) (hi : 0 ≤ i ∧ i < 2) : I 15 i = g.br i := h 5 i (by decide) hi
theorem At.sp' {I : MM} {g : G} (h : At 10 I g) (i : Int) (hi : 0 ≤ i ∧ i < 2) : I 16 i = g.sp i := h 6 i (by decide) hi
theorem At.st' {I : MM} {g : G} (h : At 10 I g) (i : Int) (hi : 0 ≤ i ∧ i < 2) : I 17 i = g.st i := h 7 i (by decide) hi
theorem WG.nWc {g : G} (h : WG g) : g.nW = 0 ∨ g.nW = 1 ∨ g.nW = 2 ∨ g.nW = 3 := by have := h.nW3; omega
theorem WG.nBc {g : G} (h : WG g) : g.nB = 0 ∨ g.nB = 1 ∨ g.nB = 2 := by have := h.nB2; omega
theorem WG.wt9 {g : G} (h : WG g) {w : Int} (h0 : 0 ≤ w) (h1 : w < g.nW) : 1 ≤ g.wt w ∧ g.wt w ≤ 9 := (h.2.2.2.2.1 w h0 h1).1
theorem WG.gl1 {g : G} (h : WG g) {w : Int} (h0 : 0 ≤ w) (h1 : w < g.nW) : g.gl w = 0 ∨ g.gl w = 1 := (h.2.2.2.2.1 w h0 h1).2
theorem WG.kd5 {g : G} (h : WG g) {b : Int} (h0 : 0 ≤ b) (h1 : b < g.nB) : 0 ≤ g.kd b ∧ g.kd b ≤ 5 := (h.2.2.2.2.2 b h0 h1).1
theorem WG.ln3 {g : G} (h : WG g) {b : Int} (h0 : 0 ≤ b) (h1 : b < g.nB) : 1 ≤ g.ln b ∧ g.ln b ≤ 3 := (h.2.2.2.2.2 b h0 h1).2.1
theorem WG.br30 {g : G} (h : WG g) {b : Int} (h0 : 0 ≤ b) (h1 : b < g.nB) : 1 ≤ g.br b ∧ g.br b ≤ 30 := (h.2.2.2.2.2 b h0 h1).2.2.1
theorem WG.spE {g : G} (h : WG g) {b : Int} (h0 : 0 ≤ b) (h1 : b < g.nB) : g.sp b = g.ln b + (if g.kd b = 2 ∨ g.kd b = 4 then 1 else 0) := (h.2.2.2.2.2 b h0 h1).2.2.2.1
theorem WG.stE {g : G} (h : WG g) {b : Int} (h0 : 0 ≤ b) (h1 : b < g.nB) : g.st b = (if g.kd b = 1 then g.br b / 2 else if g.kd b = 3 ∨ g.kd b = 5 then 2 * g.br b else g.br b) := (h.2.2.2.2.2 b h0 h1).2.2.2.2
theorem WG.st60 {g : G} (h : WG g) {b : Int} (h0 : 0 ≤ b) (h1 : b < g.nB) : 0 ≤ g.st b ∧ g.st b ≤ 60 := by
  have := h.stE h0 h1; have := h.br30 h0 h1
  split at * <;> (try split at *) <;> omega
/-- numbers -/
theorem ior_0 (a : Nat) (h : a < 2147483648) : ior 0 (a : Int) = a := by
  have := ior_n (a := 0) (b := a) (by decide) h
  simpa using this
theorem ior_c {a b : Nat} (ha : a < 2147483648) (hb : b < 2147483648) : ior (a : Int) (b : Int) = ((a ||| b : Nat) : Int) := ior_n ha hb
theorem ishl_msk {s p : Int} (hs : 1 ≤ s ∧ s ≤ 4) (hp : 0 ≤ p ∧ p ≤ 8) : ishl (isub (ishl 1 s) 1) p = (mskN s p : Int) := by
  have h1 : s = 1 ∨ s = 2 ∨ s = 3 ∨ s = 4 := by omega
  have h2 : p = 0 ∨ p = 1 ∨ p = 2 ∨ p = 3 ∨ p = 4 ∨ p = 5 ∨ p = 6 ∨ p = 7 ∨ p = 8 := by omega
  rcases h1 with rfl | rfl | rfl | rfl <;> rcases h2 with rfl | rfl | rfl | rfl | rfl | rfl | rfl | rfl | rfl <;> decide +kernel
def p2 (k : Int) : Nat := 2 ^ (k.toNat % 16)
theorem p2_lt (k : Int) : p2 k < 65536 := show 2 ^ (k.toNat % 16) < 2 ^ 16 from Nat.pow_lt_pow_right (by decide) (by omega)
theorem p2_lt8 {k : Int} (h : k < 8) : p2 k < 256 := show 2 ^ (k.toNat % 16) < 2 ^ 8 from Nat.pow_lt_pow_right (by decide) (by omega)
theorem p2_bit {k p : Int} (hk : 0 ≤ k ∧ k < 16) (hp : 0 ≤ p) : (p2 k).testBit p.toNat = true ↔ k = p := by
  rw [p2, Nat.testBit_two_pow, decide_eq_true_eq]; omega
theorem ishl_p2 {k : Int} (h : 0 ≤ k ∧ k < 16) : ishl 1 k = (p2 k : Int) := by
  obtain ⟨n, rfl⟩ : ∃ a : Nat, k = a := ⟨k.toNat, (Int.toNat_of_nonneg h.1).symm⟩
  have h1 : (2 : Nat) ^ n < 2 ^ 16 := Nat.pow_lt_pow_right (by decide) (by omega)
  have := ishl_n (a := 1) (k := n) (by omega) (by omega)
  rw [p2, Int.toNat_natCast, Nat.mod_eq_of_lt (by omega)]
  simpa using this
/-- one bit of a mask -/
theorem bit_at {n : Nat} {p : Int} (hn : n < 2147483648) (hp : 0 ≤ p ∧ p < 31) : iand (ishr (n : Int) p) 1 = if n.testBit p.toNat = true then 1 else 0 := by
  have h1 : 0 ≤ (n : Int) / 2 ^ p.toNat ∧ (n : Int) / 2 ^ p.toNat ≤ 2147483647 := by
    have : ((n / 2 ^ p.toNat : Nat) : Int) = (n : Int) / 2 ^ p.toNat := by simp
    rw [← this]
    have h3 := Nat.div_le_self n (2 ^ p.toNat)
    generalize n / 2 ^ p.toNat = q at h3
    omega
  rw [ishr_i (by omega) (by omega), iand_1 (by omega), Nat.testBit_eq_decide_div_mod_eq]
  have h2 : ((n / 2 ^ p.toNat % 2 : Nat) : Int) = (n : Int) / 2 ^ p.toNat % 2 := by simp
  rw [← h2]
  simp only [decide_eq_true_eq]
  split <;> omega
theorem ixor_m1 (n : Nat) : ixor (n : Int) (-1) = (nI (n ^^^ 4294967295)).toInt := by
  have h : Int32.ofInt (-1) = nI 4294967295 := by decide
  rw [ixor, ofN, h]
  congr 1
  apply Int32.toBitVec_inj.mp
  rw [Int32.toBitVec_xor]
  apply BitVec.eq_of_toNat_eq
  rw [BitVec.toNat_xor]
  show (BitVec.ofNat 32 n).toNat ^^^ (BitVec.ofNat 32 4294967295).toNat = (BitVec.ofNat 32 (n ^^^ 4294967295)).toNat
  simp only [BitVec.toNat_ofNat]
  rw [Nat.xor_mod_two_pow]
/-- all of one mask lies in another -/
theorem and_not {a b : Nat} (ha : a < 2147483648) (hb : b < 2147483648) : iand (a : Int) (ixor (b : Int) (-1)) = 0 ↔ ∀ i, a.testBit i = true → b.testBit i = true := by
  have e : iand (a : Int) (ixor (b : Int) (-1)) = ((a &&& (b ^^^ 4294967295) : Nat) : Int) := by
    rw [ixor_m1, iand, ofN, Int32.ofInt_toInt, nI_and, nI_toInt]
    exact Nat.lt_of_le_of_lt Nat.and_le_left ha
  rw [e]
  have h1 : ∀ i, (4294967295 : Nat).testBit i = decide (i < 32) := fun i => by
    rw [show (4294967295 : Nat) = 2 ^ 32 - 1 from rfl, Nat.testBit_two_pow_sub_one]
  constructor
  · intro h i hi
    have h0 : a &&& (b ^^^ 4294967295) = 0 := by omega
    have h2 := congrArg (fun x => x.testBit i) h0
    simp only [Nat.testBit_and, Nat.testBit_xor, h1, Nat.zero_testBit, hi, Bool.true_and] at h2
    have h3 : i < 32 := by
      rcases Nat.lt_or_ge i 32 with h | h
      · exact h
      · rw [Nat.testBit_lt_two_pow (Nat.lt_of_lt_of_le ha (by have : 2 ^ 31 ≤ 2 ^ i := Nat.pow_le_pow_right (by decide) (by omega); omega))] at hi
        cases hi
    simp [h3] at h2
    exact h2
  · intro h
    have : a &&& (b ^^^ 4294967295) = 0 := by
      apply Nat.eq_of_testBit_eq
      intro i
      simp only [Nat.testBit_and, Nat.testBit_xor, h1, Nat.zero_testBit]
      cases hi : a.testBit i with
      | false => rfl
      | true =>
        have h3 : i < 32 := by
          rcases Nat.lt_or_ge i 32 with h | h
          · exact h
          · rw [Nat.testBit_lt_two_pow (Nat.lt_of_lt_of_le ha (by have : 2 ^ 31 ≤ 2 ^ i := Nat.pow_le_pow_right (by decide) (by omega); omega))] at hi
            cases hi
        rw [h i hi]; simp [h3]
    rw [this]; rfl
theorem and_0 {a b : Nat} (ha : a < 2147483648) : iand (a : Int) (b : Int) = 0 ↔ ∀ i, a.testBit i = true → b.testBit i = true → False := by
  rw [iand_n ha]
  constructor
  · intro h i h1 h2
    have h0 : a &&& b = 0 := by omega
    have h3 := congrArg (fun x => x.testBit i) h0
    simp only [Nat.testBit_and, h1, h2, Nat.zero_testBit] at h3
    cases h3
  · intro h
    have : a &&& b = 0 := by
      apply Nat.eq_of_testBit_eq
      intro i
      rw [Nat.testBit_and, Nat.zero_testBit]
      cases h1 : a.testBit i with
      | false => rfl
      | true => cases h2 : b.testBit i with
        | false => rfl
        | true => exact (h i h1 h2).elim
    rw [this]; rfl
theorem ite10 {p : Prop} [Decidable p] : ((if p then (1 : Int) else 0) = 1) ↔ p := by split <;> simp_all
theorem gnd_eq {g : G} (hg : WG g) : ior (ior 1 (ishl 1 g.last)) g.isl = (gndN g : Int) := by
  have h1 := hg.last7; have h2 := hg.isl7
  obtain ⟨n, hn⟩ : ∃ a : Nat, g.isl = a := ⟨g.isl.toNat, (Int.toNat_of_nonneg h2.1).symm⟩
  have h3 := p2_lt8 (k := g.last) (by omega)
  have h4 : 1 ||| p2 g.last < 256 := Nat.or_lt_two_pow (n := 8) (by decide) h3
  rw [ishl_p2 (by omega), show (1 : Int) = ((1 : Nat) : Int) from rfl, ior_c (by decide) (by omega), hn, ior_c (by omega) (by omega), gndN, hn, p2, Nat.mod_eq_of_lt (by omega)]
  rfl
/-- who carries -/
abbrev carr (g : G) (c w : Int) : Prop := (0 < g.nB ∧ bAt c 0 = 8 + w) ∨ (1 < g.nB ∧ bAt c 1 = 8 + w)
def cby (g : G) (c w : Int) : Int := if 0 < g.nB ∧ bAt c 0 = 8 + w then 0 else if 1 < g.nB ∧ bAt c 1 = 8 + w then 1 else -1
def ladB (c b : Int) : Nat := if 8 ≤ bAt c b ∧ bAt c b ≠ 15 then p2 (bAt c b - 8) else 0
def ladN (g : G) (c : Int) : Nat := (if 0 < g.nB then ladB c 0 else 0) ||| (if 1 < g.nB then ladB c 1 else 0)
def cnts (g : G) (c w : Int) : Int := g.wt w + (if carr g c w then 2 else 0)
theorem ladB_bit {c b w : Int} (hw : 0 ≤ w ∧ w < 3) : (ladB c b).testBit w.toNat = true ↔ bAt c b = 8 + w := by
  have := bAt_b c b
  unfold ladB; split
  · rw [p2_bit (by omega) (by omega)]; omega
  · simp; omega
theorem ladB_lt (c b : Int) : ladB c b < 256 := by
  have := bAt_b c b
  unfold ladB; split
  · exact p2_lt8 (by omega)
  · decide
theorem ladN_lt (g : G) (c : Int) : ladN g c < 256 := by
  refine Nat.or_lt_two_pow (n := 8) ?_ ?_ <;> split <;> first | exact ladB_lt _ _ | decide
theorem ladN_bit {g : G} {c w : Int} (hw : 0 ≤ w ∧ w < 3) : (ladN g c).testBit w.toNat = true ↔ carr g c w := by
  unfold ladN carr
  rw [Nat.testBit_or, Bool.or_eq_true]
  refine or_congr ?_ ?_ <;> split <;> rename_i h <;> simp [h, ladB_bit hw]
