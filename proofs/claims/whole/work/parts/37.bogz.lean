/-! What class BogBoards$Bog's further methods answer. -/
theorem bif0 {α : Type} {P : Prop} [Decidable P] {x y : α} : (if ((if P then (1 : Int) else 0) = 0) then x else y) = if P then y else x := by
  by_cases h : P <;> simp [h]
theorem retz {P : Prop} [Decidable P] {I : MM} {v : Int} (hv : v = if P then 1 else 0) : (if v = 0 ∨ v = 1 then some (some (vI v), I) else none) = some (some (vI (if P then 1 else 0)), I) := by
  subst hv; exact retb
def ground (g : G) (p : Int) : Int := if p = 0 ∨ p = g.last then 0 else if g.isl / 2 ^ p.toNat % 2 = 1 then 1 else 2
def goalP (g : G) (w : Int) : Int := if g.gl w = 0 then 0 else g.last
def arrv (g : G) (c : Int) : Int := (if 0 < g.nW ∧ wAt c 0 = goalP g 0 then 1 else 0) + (if 1 < g.nW ∧ wAt c 1 = goalP g 1 then 1 else 0) + (if 2 < g.nW ∧ wAt c 2 = goalP g 2 then 1 else 0)
abbrev overs (g : G) (c : Int) : Prop := (0 < g.nW → wAt c 0 = goalP g 0) ∧ (1 < g.nW → wAt c 1 = goalP g 1) ∧ (2 < g.nW → wAt c 2 = goalP g 2)
def stdAt (g : G) (c p : Int) : Int := (if 0 < g.nW ∧ wAt c 0 = p then 1 else 0) + (if 1 < g.nW ∧ wAt c 1 = p then 1 else 0) + (if 2 < g.nW ∧ wAt c 2 = p then 1 else 0)
abbrev anyAt (g : G) (c p : Int) : Prop := (0 < g.nW ∧ wAt c 0 = p) ∨ (1 < g.nW ∧ wAt c 1 = p) ∨ (2 < g.nW ∧ wAt c 2 = p)
def bover (g : G) (c p : Int) : Int := if 0 < g.nB ∧ (0 ≤ p ∧ p ≤ g.last) ∧ cov g c 0 p then 0 else if 1 < g.nB ∧ (0 ≤ p ∧ p ≤ g.last) ∧ cov g c 1 p then 1 else -1
theorem arrv_over {g : G} (hg : WG g) (c : Int) : arrv g c = g.nW ↔ overs g c := by
  unfold arrv overs
  rcases hg.nWc with hn | hn | hn | hn <;> simp only [hn] <;> (repeat' split) <;> omega
theorem stdAt_any {g : G} (c p : Int) : stdAt g c p = 0 ↔ ¬ anyAt g c p := by
  unfold stdAt anyAt; (repeat' split) <;> omega
section
variable {d : Nat} {I : MM} {g : G} {c w b p : Int}
theorem x_hasPlace (hA : At 2 I g) : call (d + 1) 4 [vR 2, vI p] I = some (some (vI (if 0 ≤ p ∧ p ≤ g.last then 1 else 0)), I) := by
  rw [en4]
  have e := hA.last
  by_cases h : 0 ≤ p ∧ p ≤ g.last
  · simp (disch := omega) only [r4_0, r4_1, r4_4, r4_5, r4_6, r4_9, r4_12, r4_13, r4_16, r4_17, ↓if_pos, ↓if_neg]
  · by_cases h0 : p < 0 <;> simp (disch := omega) only [r4_0, r4_1, r4_4, r4_5, r4_6, r4_9, r4_12, r4_13, r4_16, r4_17, ↓if_pos, ↓if_neg]
theorem x_hasBoard (hA : At 2 I g) : call (d + 1) 5 [vR 2, vI b] I = some (some (vI (if 0 ≤ b ∧ b < g.nB then 1 else 0)), I) := by
  rw [en5]
  have e := hA.nB
  by_cases h : 0 ≤ b ∧ b < g.nB
  · simp (disch := omega) only [r5_0, r5_1, r5_4, r5_5, r5_6, r5_9, r5_12, r5_13, r5_16, r5_17, ↓if_pos, ↓if_neg]
  · by_cases h0 : b < 0 <;> simp (disch := omega) only [r5_0, r5_1, r5_4, r5_5, r5_6, r5_9, r5_12, r5_13, r5_16, r5_17, ↓if_pos, ↓if_neg]
theorem isl_bit (hg : WG g) (hp : 0 ≤ p ∧ p < 31) : iand (ishr g.isl p) 1 = g.isl / 2 ^ p.toNat % 2 := by
  have h2 := hg.isl7
  rw [ishr_i (by omega) (by omega), iand_1]
  have h3 : 0 < (2 : Int) ^ p.toNat := Int.pow_pos (by decide)
  have h4 : g.isl / 2 ^ p.toNat ≤ g.isl := Int.ediv_le_self _ h2.1
  have h5 : 0 ≤ g.isl / 2 ^ p.toNat := Int.ediv_nonneg h2.1 (by omega)
  omega
theorem x_groundAt (hA : At 2 I g) (hg : WG g) (hp : 0 ≤ p ∧ p ≤ g.last) : call (d + 1) 6 [vR 2, vI p] I = some (some (vI (ground g p)), I) := by
  rw [en6]
  have e := hA.last; have e2 := hA.isl; have h7 := hg.last7
  have hb := isl_bit hg (p := p) (by omega)
  rw [← e2] at hb
  unfold ground
  by_cases h0 : p = 0
  · simp (disch := omega) only [r6_0, r6_1, r6_4, r6_5, r6_6, r6_9, r6_12, r6_13, r6_14, r6_15, r6_18, r6_19, r6_20, r6_21, r6_22, r6_23, r6_26, r6_27, r6_30, r6_31, ↓if_pos, ↓if_neg]
  · by_cases h1 : p = g.last
    · simp (disch := omega) only [r6_0, r6_1, r6_4, r6_5, r6_6, r6_9, r6_12, r6_13, r6_14, r6_15, r6_18, r6_19, r6_20, r6_21, r6_22, r6_23, r6_26, r6_27, r6_30, r6_31, ↓if_pos, ↓if_neg]
    · rw [← e2]
      by_cases h2 : I 2 1 / 2 ^ p.toNat % 2 = 1
      · rw [h2] at hb
        simp (disch := omega) only [r6_0, r6_1, r6_4, r6_5, r6_6, r6_9, r6_12, r6_13, r6_14, r6_15, r6_18, r6_19, r6_20, r6_21, r6_22, r6_23, r6_26, r6_27, r6_30, r6_31, ↓if_pos, ↓if_neg, h2]
      · rw [if_neg (by omega), if_neg h2]
        have h3 : ¬ iand (ishr (I 2 1) p) 1 = 1 := by rw [hb]; exact h2
        simp (disch := omega) only [r6_0, r6_1, r6_4, r6_5, r6_6, r6_9, r6_12, r6_13, r6_14, r6_15, r6_18, r6_19, r6_20, r6_21, r6_22, r6_23, r6_26, r6_27, r6_30, r6_31, ↓if_pos, ↓if_neg]
theorem x_isLying (hc : 0 ≤ c ∧ c < 131072) (hb : 0 ≤ b ∧ b < 2) : call (d + 2) 9 [vR 2, vI c, vI b] I = some (some (vI (if bAt c b < 8 then 1 else 0)), I) := by
  rw [en9]
  by_cases h : bAt c b < 8 <;> simp (disch := omega) only [r9_0, r9_1, r9_2, r9_3, r9_6, r9_8, r9_11, r9_12, r9_15, r9_16, ↓if_pos, ↓if_neg, x_boardAt, Option.bind_some, pushR_s]
theorem x_goalPlace (hA : At 2 I g) (hg : WG g) (h0 : 0 ≤ w) (h1 : w < g.nW) : call (d + 1) 12 [vR 2, vI w] I = some (some (vI (goalP g w)), I) := by
  rw [en12]
  have e := hA.gl w; have := hg.nW3; have e2 := hA.last
  unfold goalP
  by_cases h : g.gl w = 0 <;> simp (disch := omega) only [r12_0, r12_1, r12_4, r12_5, r12_6, r12_9, r12_10, r12_13, r12_14, r12_17, ↓if_pos, ↓if_neg, e2]
theorem x_isAtGoal (hA : At 2 I g) (hg : WG g) (hc : 0 ≤ c ∧ c < 131072) (h0 : 0 ≤ w) (h1 : w < g.nW) : call (d + 2) 13 [vR 2, vI c, vI w] I = some (some (vI (if wAt c w = goalP g w then 1 else 0)), I) := by
  rw [en13]
  have := hg.nW3
  by_cases h : wAt c w = goalP g w <;> simp (disch := omega) only [r13_0, r13_1, r13_2, r13_3, r13_6, r13_7, r13_8, r13_11, r13_14, r13_15, r13_18, r13_19, ↓if_pos, ↓if_neg, x_walkerAt, x_goalPlace hA hg, Option.bind_some, pushR_s]
theorem x_arrived (hA : At 2 I g) (hg : WG g) (hc : 0 ≤ c ∧ c < 131072) : call (d + 3) 14 [vR 2, vI c] I = some (some (vI (arrv g c)), I) := by
  rw [en14]
  have e := hA.nW
  rcases hg.nWc with hn | hn | hn | hn
  · simp (disch := omega) only [r14_0, r14_1, r14_2, r14_3, r14_4, r14_5, r14_6, r14_9, r14_12, r14_13, r14_14, r14_15, r14_18, r14_21, r14_24, r14_27, r14_30, r14_31, ↓if_pos, ↓if_neg]; simp [arrv, hn]
  · by_cases p0 : wAt c 0 = goalP g 0 <;>
    simp (disch := omega) only [r14_0, r14_1, r14_2, r14_3, r14_4, r14_5, r14_6, r14_9, r14_12, r14_13, r14_14, r14_15, r14_18, r14_21, r14_24, r14_27, r14_30, r14_31, ↓if_pos, ↓if_neg, x_isAtGoal hA hg hc, Option.bind_some, pushR_s, iadd_eq, Int.reduceAdd] <;> simp [arrv, hn, p0]
  · by_cases p0 : wAt c 0 = goalP g 0 <;> by_cases p1 : wAt c 1 = goalP g 1 <;>
    simp (disch := omega) only [r14_0, r14_1, r14_2, r14_3, r14_4, r14_5, r14_6, r14_9, r14_12, r14_13, r14_14, r14_15, r14_18, r14_21, r14_24, r14_27, r14_30, r14_31, ↓if_pos, ↓if_neg, x_isAtGoal hA hg hc, Option.bind_some, pushR_s, iadd_eq, Int.reduceAdd] <;> simp [arrv, hn, p0, p1]
  · by_cases p0 : wAt c 0 = goalP g 0 <;> by_cases p1 : wAt c 1 = goalP g 1 <;> by_cases p2 : wAt c 2 = goalP g 2 <;>
    simp (disch := omega) only [r14_0, r14_1, r14_2, r14_3, r14_4, r14_5, r14_6, r14_9, r14_12, r14_13, r14_14, r14_15, r14_18, r14_21, r14_24, r14_27, r14_30, r14_31, ↓if_pos, ↓if_neg, x_isAtGoal hA hg hc, Option.bind_some, pushR_s, iadd_eq, Int.reduceAdd] <;> simp [arrv, hn, p0, p1, p2]
theorem x_isOver (hA : At 2 I g) (hg : WG g) (hc : 0 ≤ c ∧ c < 131072) : call (d + 4) 15 [vR 2, vI c] I = some (some (vI (if overs g c then 1 else 0)), I) := by
  rw [en15]
  have e := hA.nW; have k := arrv_over hg c
  by_cases h : arrv g c = g.nW
  · simp (disch := omega) only [r15_0, r15_1, r15_2, r15_5, r15_6, r15_9, r15_12, r15_13, r15_16, r15_17, ↓if_pos, ↓if_neg, x_arrived hA hg hc, Option.bind_some, pushR_s, if_pos (k.mp h)]
  · simp (disch := omega) only [r15_0, r15_1, r15_2, r15_5, r15_6, r15_9, r15_12, r15_13, r15_16, r15_17, ↓if_pos, ↓if_neg, x_arrived hA hg hc, Option.bind_some, pushR_s, if_neg (fun q => h (k.mpr q))]
theorem x_carriedBy (hA : At 2 I g) (hg : WG g) (hc : 0 ≤ c ∧ c < 131072) (hw : 0 ≤ w ∧ w < 3) : call (d + 2) 16 [vR 2, vI c, vI w] I = some (some (vI (cby g c w)), I) := by
  rw [en16]
  have e := hA.nB
  rcases hg.nBc with hn | hn | hn
  · simp (disch := omega) only [r16_0, r16_1, r16_2, r16_3, r16_4, r16_7, r16_10, r16_11, r16_12, r16_13, r16_16, r16_18, r16_19, r16_20, r16_23, r16_24, r16_25, r16_28, r16_31, r16_32, ↓if_pos, ↓if_neg]; simp [cby, hn]
  · by_cases p0 : bAt c 0 = 8 + w <;>
    simp (disch := omega) only [r16_0, r16_1, r16_2, r16_3, r16_4, r16_7, r16_10, r16_11, r16_12, r16_13, r16_16, r16_18, r16_19, r16_20, r16_23, r16_24, r16_25, r16_28, r16_31, r16_32, ↓if_pos, ↓if_neg, x_boardAt, Option.bind_some, pushR_s, iadd_eq, Int.reduceAdd] <;> simp [cby, hn, p0]
  · by_cases p0 : bAt c 0 = 8 + w <;> by_cases p1 : bAt c 1 = 8 + w <;>
    simp (disch := omega) only [r16_0, r16_1, r16_2, r16_3, r16_4, r16_7, r16_10, r16_11, r16_12, r16_13, r16_16, r16_18, r16_19, r16_20, r16_23, r16_24, r16_25, r16_28, r16_31, r16_32, ↓if_pos, ↓if_neg, x_boardAt, Option.bind_some, pushR_s, iadd_eq, Int.reduceAdd] <;> simp [cby, hn, p0, p1]
theorem x_isIn (hA : At 2 I g) (hg : WG g) {n : Nat} (hn : n < 4096) : call (d + 2) 22 [vR 2, vI n, vI p] I = some (some (vI (if (0 ≤ p ∧ p ≤ g.last) ∧ n.testBit p.toNat = true then 1 else 0)), I) := by
  rw [en22]
  have h7 := hg.last7
  by_cases h : 0 ≤ p ∧ p ≤ g.last
  · have hb := bit_at (n := n) (p := p) (by omega) (by omega)
    by_cases hq : n.testBit p.toNat = true
    · rw [if_pos hq] at hb
      simp (disch := omega) only [r22_0, r22_1, r22_2, r22_5, r22_8, r22_9, r22_10, r22_11, r22_12, r22_13, r22_14, r22_17, r22_18, r22_21, r22_22, x_hasPlace hA, Option.bind_some, pushR_s, if_pos h, ↓if_pos, ↓if_neg, if_pos (And.intro h hq)]
    · rw [if_neg hq] at hb
      simp (disch := omega) only [r22_0, r22_1, r22_2, r22_5, r22_8, r22_9, r22_10, r22_11, r22_12, r22_13, r22_14, r22_17, r22_18, r22_21, r22_22, x_hasPlace hA, Option.bind_some, pushR_s, if_pos h, ↓if_pos, ↓if_neg, if_neg (fun q : (0 ≤ p ∧ p ≤ g.last) ∧ n.testBit p.toNat = true => hq q.2)]
  · simp (disch := omega) only [r22_0, r22_1, r22_2, r22_5, r22_8, r22_9, r22_10, r22_11, r22_12, r22_13, r22_14, r22_17, r22_18, r22_21, r22_22, x_hasPlace hA, Option.bind_some, pushR_s, if_neg h, ↓if_pos, ↓if_neg, if_neg (fun q : (0 ≤ p ∧ p ≤ g.last) ∧ n.testBit p.toNat = true => h q.1)]
theorem frm_lt (hg : WG g) : gndN g ||| brdN g c < 4096 := Nat.or_lt_two_pow (n := 12) (gndN_lt hg) (brdN_lt hg)
theorem frm_bit (hg : WG g) (hp : 0 ≤ p) : (gndN g ||| brdN g c).testBit p.toNat = true ↔ hold g c p := by
  rw [Nat.testBit_or, Bool.or_eq_true, gndN_bit hg hp, brdN_bit hp]
theorem frm_if (hg : WG g) : ((0 ≤ p ∧ p ≤ g.last) ∧ (gndN g ||| brdN g c).testBit p.toNat = true) ↔ firm g c p := by
  constructor
  · exact fun h => ⟨h.1, (frm_bit hg h.1.1).mp h.2⟩
  · exact fun h => ⟨h.1, (frm_bit hg h.1.1).mpr h.2⟩
theorem x_isInF (hA : At 2 I g) (hg : WG g) : call (d + 2) 22 [vR 2, vI ((gndN g ||| brdN g c : Nat) : Int), vI p] I = some (some (vI (if firm g c p then 1 else 0)), I) := by
  rw [x_isIn hA hg (frm_lt hg)]
  simp only [frm_if hg]
theorem x_isFirm (hA : At 2 I g) (hg : WG g) (hc : 0 ≤ c ∧ c < 131072) : call (d + 4) 25 [vR 2, vI c, vI p] I = some (some (vI (if firm g c p then 1 else 0)), I) := by
  rw [en25]
  have h1 := gndN_lt hg; have h2 := brdN_lt hg (c := c)
  simp (disch := omega) only [r25_0, r25_1, r25_2, r25_5, r25_6, r25_7, r25_10, r25_11, r25_12, r25_15, x_groundMask hA hg, x_boardMask hA hg hc, ior_c, x_isInF hA hg, Option.bind_some, pushR_s, retb]
theorem x_boardOver (hA : At 2 I g) (hg : WG g) (hc : 0 ≤ c ∧ c < 131072) : call (d + 3) 26 [vR 2, vI c, vI p] I = some (some (vI (bover g c p)), I) := by
  rw [en26]
  have e := hA.nB
  have hi : ∀ (d : Nat) (b : Int), 0 ≤ b → b < g.nB → call (d + 2) 22 [vR 2, vI (covN g c b), vI p] I = some (some (vI (if (0 ≤ p ∧ p ≤ g.last) ∧ cov g c b p then 1 else 0)), I) := by
    intro d b h0 h1
    rw [x_isIn hA hg (covN_lt hg h0 h1)]
    have : ((0 ≤ p ∧ p ≤ g.last) ∧ (covN g c b).testBit p.toNat = true) ↔ ((0 ≤ p ∧ p ≤ g.last) ∧ cov g c b p) := ⟨fun h => ⟨h.1, (covN_bit h.1.1).mp h.2⟩, fun h => ⟨h.1, (covN_bit h.1.1).mpr h.2⟩⟩
    simp only [this]
  rcases hg.nBc with hn | hn | hn
  · simp (disch := omega) only [r26_0, r26_1, r26_2, r26_3, r26_4, r26_7, r26_10, r26_11, r26_12, r26_13, r26_14, r26_17, r26_18, r26_21, r26_24, r26_25, r26_26, r26_29, r26_32, r26_33, ↓if_pos, ↓if_neg]; simp [bover, hn]
  · by_cases p0 : (0 ≤ p ∧ p ≤ g.last) ∧ cov g c 0 p <;>
    simp (disch := omega) only [r26_0, r26_1, r26_2, r26_3, r26_4, r26_7, r26_10, r26_11, r26_12, r26_13, r26_14, r26_17, r26_18, r26_21, r26_24, r26_25, r26_26, r26_29, r26_32, r26_33, ↓if_pos, ↓if_neg, x_coverOf hA hg hc, hi, Option.bind_some, pushR_s, iadd_eq, Int.reduceAdd] <;> simp [bover, hn, p0]
  · have z : (bover g c p = 0 ∧ ((0 ≤ p ∧ p ≤ g.last) ∧ cov g c 0 p)) ∨ (bover g c p = 1 ∧ ¬ ((0 ≤ p ∧ p ≤ g.last) ∧ cov g c 0 p) ∧ ((0 ≤ p ∧ p ≤ g.last) ∧ cov g c 1 p)) ∨ (bover g c p = -1 ∧ ¬ ((0 ≤ p ∧ p ≤ g.last) ∧ cov g c 0 p) ∧ ¬ ((0 ≤ p ∧ p ≤ g.last) ∧ cov g c 1 p)) := by
      by_cases p0 : (0 ≤ p ∧ p ≤ g.last) ∧ cov g c 0 p
      · exact Or.inl ⟨if_pos ⟨by omega, p0⟩, p0⟩
      · by_cases p1 : (0 ≤ p ∧ p ≤ g.last) ∧ cov g c 1 p
        · exact Or.inr (Or.inl ⟨(if_neg (fun q => p0 q.2)).trans (if_pos ⟨by omega, p1⟩), p0, p1⟩)
        · exact Or.inr (Or.inr ⟨(if_neg (fun q => p0 q.2)).trans (if_neg (fun q => p1 q.2)), p0, p1⟩)
    rcases z with ⟨z, p0⟩ | ⟨z, p0, p1⟩ | ⟨z, p0, p1⟩ <;> rw [z]
    · simp (disch := omega) only [r26_0, r26_1, r26_2, r26_3, r26_4, r26_7, r26_10, r26_11, r26_12, r26_13, r26_14, r26_17, r26_18, r26_21, r26_24, r26_25, r26_26, r26_29, r26_32, r26_33, ↓if_pos, ↓if_neg, x_coverOf hA hg hc, hi, if_pos p0, Option.bind_some, pushR_s, iadd_eq, Int.reduceAdd]
    · simp (disch := omega) only [r26_0, r26_1, r26_2, r26_3, r26_4, r26_7, r26_10, r26_11, r26_12, r26_13, r26_14, r26_17, r26_18, r26_21, r26_24, r26_25, r26_26, r26_29, r26_32, r26_33, ↓if_pos, ↓if_neg, x_coverOf hA hg hc, hi, if_neg p0, if_pos p1, Option.bind_some, pushR_s, iadd_eq, Int.reduceAdd]
    · simp (disch := omega) only [r26_0, r26_1, r26_2, r26_3, r26_4, r26_7, r26_10, r26_11, r26_12, r26_13, r26_14, r26_17, r26_18, r26_21, r26_24, r26_25, r26_26, r26_29, r26_32, r26_33, ↓if_pos, ↓if_neg, x_coverOf hA hg hc, hi, if_neg p0, if_neg p1, Option.bind_some, pushR_s, iadd_eq, Int.reduceAdd]
theorem x_standingAt (hA : At 2 I g) (hg : WG g) (hc : 0 ≤ c ∧ c < 131072) : call (d + 2) 27 [vR 2, vI c, vI p] I = some (some (vI (stdAt g c p)), I) := by
  rw [en27]
  have e := hA.nW
  rcases hg.nWc with hn | hn | hn | hn
  · simp (disch := omega) only [r27_0, r27_1, r27_2, r27_3, r27_5, r27_7, r27_8, r27_11, r27_14, r27_15, r27_16, r27_18, r27_21, r27_22, r27_25, r27_28, r27_31, r27_34, r27_35, ↓if_pos, ↓if_neg]; simp [stdAt, hn]
  · by_cases p0 : wAt c 0 = p <;>
    simp (disch := omega) only [r27_0, r27_1, r27_2, r27_3, r27_5, r27_7, r27_8, r27_11, r27_14, r27_15, r27_16, r27_18, r27_21, r27_22, r27_25, r27_28, r27_31, r27_34, r27_35, ↓if_pos, ↓if_neg, x_walkerAt, Option.bind_some, pushR_s, iadd_eq, Int.reduceAdd] <;> simp [stdAt, hn, p0]
  · by_cases p0 : wAt c 0 = p <;> by_cases p1 : wAt c 1 = p <;>
    simp (disch := omega) only [r27_0, r27_1, r27_2, r27_3, r27_5, r27_7, r27_8, r27_11, r27_14, r27_15, r27_16, r27_18, r27_21, r27_22, r27_25, r27_28, r27_31, r27_34, r27_35, ↓if_pos, ↓if_neg, x_walkerAt, Option.bind_some, pushR_s, iadd_eq, Int.reduceAdd] <;> simp [stdAt, hn, p0, p1]
  · by_cases p0 : wAt c 0 = p <;> by_cases p1 : wAt c 1 = p <;> by_cases p2 : wAt c 2 = p <;>
    simp (disch := omega) only [r27_0, r27_1, r27_2, r27_3, r27_5, r27_7, r27_8, r27_11, r27_14, r27_15, r27_16, r27_18, r27_21, r27_22, r27_25, r27_28, r27_31, r27_34, r27_35, ↓if_pos, ↓if_neg, x_walkerAt, Option.bind_some, pushR_s, iadd_eq, Int.reduceAdd] <;> simp [stdAt, hn, p0, p1, p2]
theorem x_loadOn (hA : At 2 I g) (hg : WG g) (hc : 0 ≤ c ∧ c < 131072) (h0 : 0 ≤ b) (h1 : b < g.nB) : call (d + 3) 28 [vR 2, vI c, vI b] I = some (some (vI (load g c b)), I) := by
  rw [en28]
  simp (disch := omega) only [r28_0, r28_1, r28_2, r28_3, r28_4, r28_5, r28_8, r28_9, r28_10, r28_13, r28_16, x_coverOf hA hg hc, x_ladenMask hA hg hc, x_weightOver hA hg hc, Option.bind_some, pushR_s]
end
