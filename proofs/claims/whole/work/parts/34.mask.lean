/-! Masks: sets of places as bits. -/
def mskN (s p : Int) : Nat := (2 ^ s.toNat - 1) * 2 ^ p.toNat
theorem mskN_bit (s p : Int) (i : Nat) : (mskN s p).testBit i = decide (p.toNat ≤ i ∧ i < p.toNat + s.toNat) := by
  rw [mskN, ← Nat.shiftLeft_eq, Nat.testBit_shiftLeft, Nat.testBit_two_pow_sub_one]
  by_cases h : p.toNat ≤ i
  · have : (i - p.toNat < s.toNat) ↔ (i < p.toNat + s.toNat) := by omega
    simp [h, this]
  · simp [h]
theorem mskN_lt {s p : Int} (hs : 0 ≤ s ∧ s ≤ 4) (hp : 0 ≤ p ∧ p ≤ 8) : mskN s p < 4096 := by
  have h1 : 2 ^ s.toNat ≤ 2 ^ 4 := Nat.pow_le_pow_right (by decide) (by omega)
  have h2 : 2 ^ p.toNat ≤ 2 ^ 8 := Nat.pow_le_pow_right (by decide) (by omega)
  have h3 : (2 ^ s.toNat - 1) * 2 ^ p.toNat ≤ 15 * 256 := Nat.mul_le_mul (by omega) h2
  rw [mskN]; omega
def covN (g : G) (c b : Int) : Nat := if bAt c b < 8 then mskN (g.sp b) (bAt c b) else 0
def brdN (g : G) (c : Int) : Nat := (if 0 < g.nB then covN g c 0 else 0) ||| (if 1 < g.nB then covN g c 1 else 0)
def gndN (g : G) : Nat := (1 ||| 2 ^ g.last.toNat) ||| g.isl.toNat
def stdN (g : G) (c : Int) : Nat := ((if 0 < g.nW then 2 ^ (wAt c 0).toNat else 0) ||| (if 1 < g.nW then 2 ^ (wAt c 1).toNat else 0)) ||| (if 2 < g.nW then 2 ^ (wAt c 2).toNat else 0)
/-- what a place is, told without masks -/
abbrev cov (g : G) (c b p : Int) : Prop := bAt c b < 8 ∧ bAt c b ≤ p ∧ p < bAt c b + g.sp b
abbrev covd (g : G) (c p : Int) : Prop := (0 < g.nB ∧ cov g c 0 p) ∨ (1 < g.nB ∧ cov g c 1 p)
abbrev dry (g : G) (p : Int) : Prop := p = 0 ∨ p = g.last ∨ g.isl / 2 ^ p.toNat % 2 = 1
abbrev firm (g : G) (c p : Int) : Prop := (0 ≤ p ∧ p ≤ g.last) ∧ (dry g p ∨ covd g c p)
theorem WG.sp14 {g : G} (h : WG g) {b : Int} (h0 : 0 ≤ b) (h1 : b < g.nB) : 1 ≤ g.sp b ∧ g.sp b ≤ 4 := by
  obtain ⟨-, -, -, -, -, hb⟩ := h
  obtain ⟨-, hl, -, hs, -⟩ := hb b h0 h1
  rw [hs]; split <;> omega
theorem WG.last7 {g : G} (h : WG g) : 1 ≤ g.last ∧ g.last ≤ 7 := h.1
theorem WG.isl7 {g : G} (h : WG g) : 0 ≤ g.isl ∧ g.isl < 128 := h.2.1
theorem WG.nW3 {g : G} (h : WG g) : 0 ≤ g.nW ∧ g.nW ≤ 3 := h.2.2.1
theorem WG.nB2 {g : G} (h : WG g) : 0 ≤ g.nB ∧ g.nB ≤ 2 := h.2.2.2.1
theorem covN_bit {g : G} {c b : Int} {p : Int} (hp : 0 ≤ p) : (covN g c b).testBit p.toNat = true ↔ cov g c b p := by
  have := bAt_b c b
  unfold covN cov
  split
  · rename_i h
    rw [mskN_bit]; simp only [decide_eq_true_eq]; omega
  · simp; omega
theorem covN_lt {g : G} (hg : WG g) {c b : Int} (h0 : 0 ≤ b) (h1 : b < g.nB) : covN g c b < 4096 := by
  have := bAt_b c b
  have h2 := hg.sp14 h0 h1
  unfold covN; split
  · exact mskN_lt (by omega) (by omega)
  · decide
theorem brdN_lt {g : G} (hg : WG g) {c : Int} : brdN g c < 4096 := by
  refine Nat.or_lt_two_pow (n := 12) ?_ ?_ <;> split
  · exact covN_lt hg (by omega) (by omega)
  · decide
  · exact covN_lt hg (by omega) (by omega)
  · decide
theorem brdN_bit {g : G} {c p : Int} (hp : 0 ≤ p) : (brdN g c).testBit p.toNat = true ↔ covd g c p := by
  unfold brdN covd
  rw [Nat.testBit_or, Bool.or_eq_true]
  refine or_congr ?_ ?_
  · split
    · rename_i h; rw [covN_bit hp]; simp [h]
    · rename_i h; simp [h]
  · split
    · rename_i h; rw [covN_bit hp]; simp [h]
    · rename_i h; simp [h]
theorem gndN_lt {g : G} (hg : WG g) : gndN g < 4096 := by
  have h1 := hg.last7; have h2 := hg.isl7
  refine Nat.or_lt_two_pow (n := 12) (Nat.or_lt_two_pow (n := 12) (by decide) ?_) (by omega)
  exact Nat.pow_lt_pow_right (by decide) (by omega)
theorem gndN_bit {g : G} (hg : WG g) {p : Int} (hp : 0 ≤ p) : (gndN g).testBit p.toNat = true ↔ dry g p := by
  have h1 := hg.last7; have h2 := hg.isl7
  unfold gndN dry
  rw [Nat.testBit_or, Nat.testBit_or, Bool.or_eq_true, Bool.or_eq_true, or_assoc]
  refine or_congr ?_ (or_congr ?_ ?_)
  · rw [show (1 : Nat) = 2 ^ 0 from rfl, Nat.testBit_two_pow, decide_eq_true_eq]; omega
  · rw [Nat.testBit_two_pow, decide_eq_true_eq]; omega
  · obtain ⟨n, hn⟩ : ∃ n : Nat, g.isl = n := ⟨g.isl.toNat, (Int.toNat_of_nonneg h2.1).symm⟩
    rw [hn, Int.toNat_natCast, Nat.testBit_eq_decide_div_mod_eq, decide_eq_true_eq]
    norm_cast
theorem stdN_lt {g : G} {c : Int} : stdN g c < 256 := by
  have h : ∀ w, 2 ^ (wAt c w).toNat < 2 ^ 8 := fun w => Nat.pow_lt_pow_right (by decide) (by have := wAt_b c w; omega)
  refine Nat.or_lt_two_pow (n := 8) (Nat.or_lt_two_pow (n := 8) ?_ ?_) ?_ <;> split <;> first | exact h _ | decide
theorem stdN_bit {g : G} {c p : Int} (hp : 0 ≤ p) : (stdN g c).testBit p.toNat = true ↔ (0 < g.nW ∧ wAt c 0 = p) ∨ (1 < g.nW ∧ wAt c 1 = p) ∨ (2 < g.nW ∧ wAt c 2 = p) := by
  have h : ∀ w, (2 ^ (wAt c w).toNat).testBit p.toNat = true ↔ wAt c w = p := fun w => by
    have := wAt_b c w
    rw [Nat.testBit_two_pow, decide_eq_true_eq]; omega
  unfold stdN
  rw [Nat.testBit_or, Nat.testBit_or, Bool.or_eq_true, Bool.or_eq_true, or_assoc]
  refine or_congr ?_ (or_congr ?_ ?_) <;> (split <;> rename_i q <;> simp [h, q])
