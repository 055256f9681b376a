/-! What class BogBoards$Bog's methods over masks answer. -/
theorem retb {α : Type} {P : Prop} [Decidable P] {x y : α} : (if ((if P then (1 : Int) else 0) = 0 ∨ (if P then (1 : Int) else 0) = 1) then x else y) = x := by
  apply if_pos; split <;> simp
/-- what stands on a board weighs -/
def cv (g : G) (c b w : Int) : Int := if cov g c b (wAt c w) then cnts g c w else 0
def load (g : G) (c b : Int) : Int := (if 0 < g.nW then cv g c b 0 else 0) + (if 1 < g.nW then cv g c b 1 else 0) + (if 2 < g.nW then cv g c b 2 else 0)
abbrev hold (g : G) (c p : Int) : Prop := dry g p ∨ covd g c p
def stays (g : G) (c : Int) : Bool := decide (0 < g.nW → hold g c (wAt c 0)) && (decide (1 < g.nW → hold g c (wAt c 1)) && decide (2 < g.nW → hold g c (wAt c 2)))
theorem stays_iff (g : G) (c : Int) : stays g c = true ↔ (0 < g.nW → hold g c (wAt c 0)) ∧ (1 < g.nW → hold g c (wAt c 1)) ∧ (2 < g.nW → hold g c (wAt c 2)) := by
  simp only [stays, Bool.and_eq_true, decide_eq_true_eq]
abbrev well (g : G) (c : Int) : Prop := ((0 < g.nB → load g c 0 ≤ g.st 0) ∧ (1 < g.nB → load g c 1 ≤ g.st 1)) ∧ stays g c = true
theorem cnts_b {g : G} (hg : WG g) {c w : Int} (h0 : 0 ≤ w) (h1 : w < g.nW) : 1 ≤ cnts g c w ∧ cnts g c w ≤ 11 := by
  have := hg.wt9 h0 h1
  unfold cnts; split <;> omega
theorem stdN_p2 (g : G) (c : Int) : stdN g c = ((if 0 < g.nW then p2 (wAt c 0) else 0) ||| (if 1 < g.nW then p2 (wAt c 1) else 0)) ||| (if 2 < g.nW then p2 (wAt c 2) else 0) := by
  have h : ∀ w, p2 (wAt c w) = 2 ^ (wAt c w).toNat := fun w => by
    have := wAt_b c w
    rw [p2, Nat.mod_eq_of_lt (by omega)]
  simp only [stdN, h]
section
variable {d : Nat} {I : MM} {g : G} {c w b p : Int}
theorem x_maskOf (hs : 1 ≤ w ∧ w ≤ 4) (hp : 0 ≤ p ∧ p ≤ 8) : call (d + 1) 19 [vR 2, vI w, vI p] I = some (some (vI (mskN w p)), I) := by
  rw [en19]
  simp (disch := omega) only [r19_0, r19_1, r19_2, r19_3, r19_4, r19_5, r19_6, r19_7, ishl_msk]
theorem x_groundMask (hA : At 2 I g) (hg : WG g) : call (d + 1) 23 [vR 2] I = some (some (vI (gndN g)), I) := by
  rw [en23]
  simp (disch := omega) only [r23_0, r23_1, r23_2, r23_3, r23_6, r23_7, r23_8, r23_9, r23_12, r23_13, hA.last, hA.isl, gnd_eq hg]
theorem x_coverOf (hA : At 2 I g) (hg : WG g) (hc : 0 ≤ c ∧ c < 131072) (h0 : 0 ≤ b) (h1 : b < g.nB) : call (d + 2) 20 [vR 2, vI c, vI b] I = some (some (vI (covN g c b)), I) := by
  rw [en20]
  have hq := bAt_b c b; have h14 := hg.sp14 h0 h1; have := hg.nB2
  by_cases h : bAt c b < 8
  · simp (disch := omega) only [r20_0, r20_1, r20_2, r20_3, r20_6, r20_7, r20_8, r20_10, r20_13, r20_14, r20_15, r20_18, r20_19, r20_20, r20_21, r20_24, r20_27, r20_28, ↓if_pos, ↓if_neg, x_boardAt, Option.bind_some, pushR_s, x_maskOf, hA.sp, covN]
  · simp (disch := omega) only [r20_0, r20_1, r20_2, r20_3, r20_6, r20_7, r20_8, r20_10, r20_13, r20_14, r20_15, r20_18, r20_19, r20_20, r20_21, r20_24, r20_27, r20_28, ↓if_pos, ↓if_neg, x_boardAt, Option.bind_some, pushR_s, covN]
    rfl
theorem x_boardMask (hA : At 2 I g) (hg : WG g) (hc : 0 ≤ c ∧ c < 131072) : call (d + 3) 21 [vR 2, vI c] I = some (some (vI (brdN g c)), I) := by
  rw [en21]
  have e := hA.nB
  rcases hg.nBc with hn | hn | hn
  · simp (disch := omega) only [r21_0, r21_1, r21_2, r21_3, r21_4, r21_5, r21_6, r21_9, r21_12, r21_13, r21_14, r21_15, r21_16, r21_19, r21_20, r21_21, r21_24, r21_27, r21_28, ↓if_pos, ↓if_neg, brdN]; rfl
  · have h0 := covN_lt hg (c := c) (b := 0) (by omega) (by omega)
    simp (disch := omega) only [r21_0, r21_1, r21_2, r21_3, r21_4, r21_5, r21_6, r21_9, r21_12, r21_13, r21_14, r21_15, r21_16, r21_19, r21_20, r21_21, r21_24, r21_27, r21_28, ↓if_pos, ↓if_neg, x_coverOf hA hg hc, Option.bind_some, pushR_s, iadd_eq, Int.reduceAdd, ior_0, brdN, Nat.or_zero]
  · have h0 := covN_lt hg (c := c) (b := 0) (by omega) (by omega)
    have h1 := covN_lt hg (c := c) (b := 1) (by omega) (by omega)
    simp (disch := omega) only [r21_0, r21_1, r21_2, r21_3, r21_4, r21_5, r21_6, r21_9, r21_12, r21_13, r21_14, r21_15, r21_16, r21_19, r21_20, r21_21, r21_24, r21_27, r21_28, ↓if_pos, ↓if_neg, x_coverOf hA hg hc, Option.bind_some, pushR_s, iadd_eq, Int.reduceAdd, ior_0, ior_c, brdN]
theorem x_ladenMask (hA : At 2 I g) (hg : WG g) (hc : 0 ≤ c ∧ c < 131072) : call (d + 2) 17 [vR 2, vI c] I = some (some (vI (ladN g c)), I) := by
  rw [en17]
  have e := hA.nB
  have q0 := bAt_b c 0; have q1 := bAt_b c 1
  have k0 : bAt c 0 < 8 ∨ bAt c 0 = 15 ∨ (8 ≤ bAt c 0 ∧ bAt c 0 ≠ 15) := by omega
  have k1 : bAt c 1 < 8 ∨ bAt c 1 = 15 ∨ (8 ≤ bAt c 1 ∧ bAt c 1 ≠ 15) := by omega
  have l0 := p2_lt (bAt c 0 - 8); have l1 := p2_lt (bAt c 1 - 8)
  rcases hg.nBc with hn | hn | hn
  · simp (disch := omega) only [r17_0, r17_1, r17_2, r17_3, r17_4, r17_5, r17_6, r17_9, r17_12, r17_13, r17_14, r17_15, r17_18, r17_20, r17_22, r17_24, r17_27, r17_29, r17_31, r17_34, r17_35, r17_36, r17_38, r17_40, r17_41, r17_42, r17_43, r17_44, r17_47, r17_50, r17_51, ↓if_pos, ↓if_neg, ladN]; rfl
  · rcases k0 with k0 | k0 | k0 <;> simp (disch := omega) only [r17_0, r17_1, r17_2, r17_3, r17_4, r17_5, r17_6, r17_9, r17_12, r17_13, r17_14, r17_15, r17_18, r17_20, r17_22, r17_24, r17_27, r17_29, r17_31, r17_34, r17_35, r17_36, r17_38, r17_40, r17_41, r17_42, r17_43, r17_44, r17_47, r17_50, r17_51, ↓if_pos, ↓if_neg, x_boardAt, Option.bind_some, pushR_s, iadd_eq, isub_eq, Int.reduceAdd, ishl_p2, ior_0, ior_c, ladN, ladB, Nat.or_zero, Nat.zero_or] <;> rfl
  · rcases k0 with k0 | k0 | k0 <;> rcases k1 with k1 | k1 | k1 <;> simp (disch := omega) only [r17_0, r17_1, r17_2, r17_3, r17_4, r17_5, r17_6, r17_9, r17_12, r17_13, r17_14, r17_15, r17_18, r17_20, r17_22, r17_24, r17_27, r17_29, r17_31, r17_34, r17_35, r17_36, r17_38, r17_40, r17_41, r17_42, r17_43, r17_44, r17_47, r17_50, r17_51, ↓if_pos, ↓if_neg, x_boardAt, Option.bind_some, pushR_s, iadd_eq, isub_eq, Int.reduceAdd, ishl_p2, ior_0, ior_c, ladN, ladB, Nat.or_zero, Nat.zero_or] <;> rfl
theorem x_counts (hA : At 2 I g) (hg : WG g) (h0 : 0 ≤ w) (h1 : w < g.nW) : call (d + 1) 18 [vR 2, vI w, vI (ladN g c)] I = some (some (vI (cnts g c w)), I) := by
  rw [en18]
  have hw := hg.nW3; have h9 := hg.wt9 h0 h1; have hl := ladN_lt g c
  have hb : iand (ishr (ladN g c : Int) w) 1 = if carr g c w then 1 else 0 := by
    rw [bit_at (by omega) (by omega)]; simp only [ladN_bit (show 0 ≤ w ∧ w < 3 by omega)]
  by_cases h : carr g c w
  · rw [if_pos h] at hb
    simp (disch := omega) only [r18_0, r18_1, r18_4, r18_5, r18_6, r18_7, r18_8, r18_9, r18_10, r18_11, r18_12, r18_15, r18_16, r18_19, r18_20, r18_21, ↓if_pos, ↓if_neg, hA.wt, iadd_eq, cnts, if_pos h]
  · rw [if_neg h] at hb
    simp (disch := omega) only [r18_0, r18_1, r18_4, r18_5, r18_6, r18_7, r18_8, r18_9, r18_10, r18_11, r18_12, r18_15, r18_16, r18_19, r18_20, r18_21, ↓if_pos, ↓if_neg, hA.wt, iadd_eq, cnts, if_neg h]
theorem x_weightOver (hA : At 2 I g) (hg : WG g) (hc : 0 ≤ c ∧ c < 131072) (h0 : 0 ≤ b) (h1 : b < g.nB) : call (d + 2) 29 [vR 2, vI c, vI (covN g c b), vI (ladN g c)] I = some (some (vI (load g c b)), I) := by
  rw [en29]
  have e := hA.nW; have hl := covN_lt hg (c := c) h0 h1
  have hb : ∀ w, iand (ishr (covN g c b : Int) (wAt c w)) 1 = if cov g c b (wAt c w) then 1 else 0 := fun w => by
    have := wAt_b c w
    rw [bit_at (by omega) (by omega)]; simp only [covN_bit (show 0 ≤ wAt c w by omega)]
  have hcv : ∀ w, (cv g c b w = cnts g c w ∧ iand (ishr (covN g c b : Int) (wAt c w)) 1 = 1) ∨ (cv g c b w = 0 ∧ iand (ishr (covN g c b : Int) (wAt c w)) 1 = 0) := fun w => by
    by_cases h : cov g c b (wAt c w)
    · exact Or.inl ⟨if_pos h, (hb w).trans (if_pos h)⟩
    · exact Or.inr ⟨if_neg h, (hb w).trans (if_neg h)⟩
  rcases hg.nWc with hn | hn | hn | hn
  · simp (disch := omega) only [r29_0, r29_1, r29_3, r29_4, r29_6, r29_8, r29_9, r29_12, r29_15, r29_16, r29_17, r29_18, r29_20, r29_23, r29_24, r29_25, r29_26, r29_27, r29_30, r29_32, r29_33, r29_35, r29_36, r29_39, r29_40, r29_42, r29_45, r29_48, r29_50, ↓if_pos, ↓if_neg, load]; simp [hn]
  · have n0 := cnts_b hg (c := c) (w := 0) (by omega) (by omega)
    rcases hcv 0 with ⟨z0, hb0⟩ | ⟨z0, hb0⟩ <;>
    simp (disch := omega) only [r29_0, r29_1, r29_3, r29_4, r29_6, r29_8, r29_9, r29_12, r29_15, r29_16, r29_17, r29_18, r29_20, r29_23, r29_24, r29_25, r29_26, r29_27, r29_30, r29_32, r29_33, r29_35, r29_36, r29_39, r29_40, r29_42, r29_45, r29_48, r29_50, ↓if_pos, ↓if_neg, x_walkerAt, x_counts hA hg, Option.bind_some, pushR_s, iadd_eq, Int.reduceAdd] <;> simp [load, hn, z0]
  · have n0 := cnts_b hg (c := c) (w := 0) (by omega) (by omega)
    have n1 := cnts_b hg (c := c) (w := 1) (by omega) (by omega)
    rcases hcv 0 with ⟨z0, hb0⟩ | ⟨z0, hb0⟩ <;> rcases hcv 1 with ⟨z1, hb1⟩ | ⟨z1, hb1⟩ <;>
    simp (disch := omega) only [r29_0, r29_1, r29_3, r29_4, r29_6, r29_8, r29_9, r29_12, r29_15, r29_16, r29_17, r29_18, r29_20, r29_23, r29_24, r29_25, r29_26, r29_27, r29_30, r29_32, r29_33, r29_35, r29_36, r29_39, r29_40, r29_42, r29_45, r29_48, r29_50, ↓if_pos, ↓if_neg, x_walkerAt, x_counts hA hg, Option.bind_some, pushR_s, iadd_eq, Int.reduceAdd] <;> simp [load, hn, z0, z1]
  · have n0 := cnts_b hg (c := c) (w := 0) (by omega) (by omega)
    have n1 := cnts_b hg (c := c) (w := 1) (by omega) (by omega)
    have n2 := cnts_b hg (c := c) (w := 2) (by omega) (by omega)
    rcases hcv 0 with ⟨z0, hb0⟩ | ⟨z0, hb0⟩ <;> rcases hcv 1 with ⟨z1, hb1⟩ | ⟨z1, hb1⟩ <;> rcases hcv 2 with ⟨z2, hb2⟩ | ⟨z2, hb2⟩ <;>
    simp (disch := omega) only [r29_0, r29_1, r29_3, r29_4, r29_6, r29_8, r29_9, r29_12, r29_15, r29_16, r29_17, r29_18, r29_20, r29_23, r29_24, r29_25, r29_26, r29_27, r29_30, r29_32, r29_33, r29_35, r29_36, r29_39, r29_40, r29_42, r29_45, r29_48, r29_50, ↓if_pos, ↓if_neg, x_walkerAt, x_counts hA hg, Option.bind_some, pushR_s, iadd_eq, Int.reduceAdd] <;> simp [load, hn, z0, z1, z2]
theorem x_standMask (hA : At 2 I g) (hg : WG g) (hc : 0 ≤ c ∧ c < 131072) : call (d + 2) 24 [vR 2, vI c] I = some (some (vI (stdN g c)), I) := by
  rw [en24, stdN_p2]
  have e := hA.nW
  have q0 := wAt_b c 0; have q1 := wAt_b c 1; have q2 := wAt_b c 2
  have l0 := p2_lt (wAt c 0); have l1 := p2_lt (wAt c 1); have l2 := p2_lt (wAt c 2)
  have l3 : p2 (wAt c 0) ||| p2 (wAt c 1) < 65536 := Nat.or_lt_two_pow (n := 16) l0 l1
  rcases hg.nWc with hn | hn | hn | hn
  · simp (disch := omega) only [r24_0, r24_1, r24_2, r24_3, r24_4, r24_5, r24_6, r24_9, r24_12, r24_13, r24_14, r24_15, r24_16, r24_17, r24_20, r24_21, r24_22, r24_23, r24_26, r24_29, r24_30, ↓if_pos, ↓if_neg]; rfl
  all_goals simp (disch := omega) only [r24_0, r24_1, r24_2, r24_3, r24_4, r24_5, r24_6, r24_9, r24_12, r24_13, r24_14, r24_15, r24_16, r24_17, r24_20, r24_21, r24_22, r24_23, r24_26, r24_29, r24_30, ↓if_pos, ↓if_neg, x_walkerAt, Option.bind_some, pushR_s, iadd_eq, Int.reduceAdd, ishl_p2, ior_0, ior_c, Nat.or_zero]
theorem x_isWell (hA : At 2 I g) (hg : WG g) (hc : 0 ≤ c ∧ c < 131072) : call (d + 3) 30 [vR 2, vI c] I = some (some (vI (if well g c then 1 else 0)), I) := by
  rw [en30]
  have e := hA.nB; have hgl := gndN_lt hg; have hsl := stdN_lt (g := g) (c := c)
  have es0 := hA.st 0; have es1 := hA.st 1
  have key : ∀ n : Nat, n < 4096 → (∀ p, 0 ≤ p → (n.testBit p.toNat = true ↔ hold g c p)) → (iand (stdN g c : Int) (ixor (n : Int) (-1)) = 0 ↔ stays g c = true) := by
    intro n hn hh
    rw [and_not (by omega) (by omega), stays_iff]
    constructor
    · intro h
      refine ⟨fun a => ?_, fun a => ?_, fun a => ?_⟩
      · exact (hh _ (wAt_b c 0).1).mp (h _ ((stdN_bit (wAt_b c 0).1).mpr (Or.inl ⟨a, rfl⟩)))
      · exact (hh _ (wAt_b c 1).1).mp (h _ ((stdN_bit (wAt_b c 1).1).mpr (Or.inr (Or.inl ⟨a, rfl⟩))))
      · exact (hh _ (wAt_b c 2).1).mp (h _ ((stdN_bit (wAt_b c 2).1).mpr (Or.inr (Or.inr ⟨a, rfl⟩))))
    · rintro ⟨a0, a1, a2⟩ i hi
      have h1 := (stdN_bit (g := g) (c := c) (p := (i : Int)) (by omega)).mp (by simpa using hi)
      have h2 := (hh (i : Int) (by omega)).mpr
      simp only [Int.toNat_natCast] at h2
      apply h2
      rcases h1 with ⟨h, e⟩ | ⟨h, e⟩ | ⟨h, e⟩
      · rw [← e]; exact a0 h
      · rw [← e]; exact a1 h
      · rw [← e]; exact a2 h
  rcases hg.nBc with hn | hn | hn
  · have k := key (gndN g) hgl (fun p hp => by rw [gndN_bit hg hp]; simp [hold, covd, hn])
    by_cases h : iand (stdN g c : Int) (ixor (gndN g : Int) (-1)) = 0
    · have hW : well g c := by
        refine ⟨⟨by omega, by omega⟩, k.mp h⟩
      simp (disch := omega) only [r30_0, r30_1, r30_4, r30_5, r30_6, r30_7, r30_10, r30_11, r30_12, r30_14, r30_16, r30_17, r30_20, r30_23, r30_24, r30_25, r30_27, r30_30, r30_32, r30_33, r30_34, r30_36, r30_37, r30_40, r30_41, r30_44, r30_46, r30_47, r30_50, r30_51, r30_52, r30_53, r30_55, r30_56, r30_57, r30_60, r30_63, r30_64, r30_65, r30_68, r30_69, r30_70, r30_71, r30_72, r30_75, r30_76, r30_79, r30_80, ↓if_pos, ↓if_neg, x_groundMask hA hg, x_ladenMask hA hg hc, x_standMask hA hg hc, Option.bind_some, pushR_s, if_pos hW]
    · have hW : ¬ well g c := fun q => h (k.mpr q.2)
      simp (disch := omega) only [r30_0, r30_1, r30_4, r30_5, r30_6, r30_7, r30_10, r30_11, r30_12, r30_14, r30_16, r30_17, r30_20, r30_23, r30_24, r30_25, r30_27, r30_30, r30_32, r30_33, r30_34, r30_36, r30_37, r30_40, r30_41, r30_44, r30_46, r30_47, r30_50, r30_51, r30_52, r30_53, r30_55, r30_56, r30_57, r30_60, r30_63, r30_64, r30_65, r30_68, r30_69, r30_70, r30_71, r30_72, r30_75, r30_76, r30_79, r30_80, ↓if_pos, ↓if_neg, x_groundMask hA hg, x_ladenMask hA hg hc, x_standMask hA hg hc, Option.bind_some, pushR_s, if_neg hW]
  · have c0 := covN_lt hg (c := c) (b := 0) (by omega) (by omega)
    have hor : gndN g ||| covN g c 0 < 4096 := Nat.or_lt_two_pow (n := 12) hgl c0
    have k := key (gndN g ||| covN g c 0) hor (fun p hp => by rw [Nat.testBit_or, Bool.or_eq_true, gndN_bit hg hp, covN_bit hp]; simp [hold, covd, hn])
    by_cases l0 : load g c 0 ≤ g.st 0
    · by_cases h : iand (stdN g c : Int) (ixor ((gndN g ||| covN g c 0 : Nat) : Int) (-1)) = 0
      · have hW : well g c := ⟨⟨fun _ => l0, by omega⟩, k.mp h⟩
        simp (disch := omega) only [r30_0, r30_1, r30_4, r30_5, r30_6, r30_7, r30_10, r30_11, r30_12, r30_14, r30_16, r30_17, r30_20, r30_23, r30_24, r30_25, r30_27, r30_30, r30_32, r30_33, r30_34, r30_36, r30_37, r30_40, r30_41, r30_44, r30_46, r30_47, r30_50, r30_51, r30_52, r30_53, r30_55, r30_56, r30_57, r30_60, r30_63, r30_64, r30_65, r30_68, r30_69, r30_70, r30_71, r30_72, r30_75, r30_76, r30_79, r30_80, ↓if_pos, ↓if_neg, x_groundMask hA hg, x_ladenMask hA hg hc, x_standMask hA hg hc, x_coverOf hA hg hc, x_weightOver hA hg hc, Option.bind_some, pushR_s, iadd_eq, Int.reduceAdd, ior_c, if_pos hW]
      · have hW : ¬ well g c := fun q => h (k.mpr q.2)
        simp (disch := omega) only [r30_0, r30_1, r30_4, r30_5, r30_6, r30_7, r30_10, r30_11, r30_12, r30_14, r30_16, r30_17, r30_20, r30_23, r30_24, r30_25, r30_27, r30_30, r30_32, r30_33, r30_34, r30_36, r30_37, r30_40, r30_41, r30_44, r30_46, r30_47, r30_50, r30_51, r30_52, r30_53, r30_55, r30_56, r30_57, r30_60, r30_63, r30_64, r30_65, r30_68, r30_69, r30_70, r30_71, r30_72, r30_75, r30_76, r30_79, r30_80, ↓if_pos, ↓if_neg, x_groundMask hA hg, x_ladenMask hA hg hc, x_standMask hA hg hc, x_coverOf hA hg hc, x_weightOver hA hg hc, Option.bind_some, pushR_s, iadd_eq, Int.reduceAdd, ior_c, if_neg hW]
    · have hW : ¬ well g c := fun q => l0 (q.1.1 (by omega))
      simp (disch := omega) only [r30_0, r30_1, r30_4, r30_5, r30_6, r30_7, r30_10, r30_11, r30_12, r30_14, r30_16, r30_17, r30_20, r30_23, r30_24, r30_25, r30_27, r30_30, r30_32, r30_33, r30_34, r30_36, r30_37, r30_40, r30_41, r30_44, r30_46, r30_47, r30_50, r30_51, r30_52, r30_53, r30_55, r30_56, r30_57, r30_60, r30_63, r30_64, r30_65, r30_68, r30_69, r30_70, r30_71, r30_72, r30_75, r30_76, r30_79, r30_80, ↓if_pos, ↓if_neg, x_groundMask hA hg, x_ladenMask hA hg hc, x_coverOf hA hg hc, x_weightOver hA hg hc, Option.bind_some, pushR_s, iadd_eq, Int.reduceAdd, ior_c, if_neg hW]
  · have c0 := covN_lt hg (c := c) (b := 0) (by omega) (by omega)
    have c1 := covN_lt hg (c := c) (b := 1) (by omega) (by omega)
    have hor : gndN g ||| covN g c 0 < 4096 := Nat.or_lt_two_pow (n := 12) hgl c0
    have hor1 : gndN g ||| covN g c 0 ||| covN g c 1 < 4096 := Nat.or_lt_two_pow (n := 12) hor c1
    have k := key (gndN g ||| covN g c 0 ||| covN g c 1) hor1 (fun p hp => by rw [Nat.testBit_or, Bool.or_eq_true, Nat.testBit_or, Bool.or_eq_true, gndN_bit hg hp, covN_bit hp, covN_bit hp]; simp [hold, covd, hn, or_assoc])
    by_cases l0 : load g c 0 ≤ g.st 0
    · by_cases l1 : load g c 1 ≤ g.st 1
      · by_cases h : iand (stdN g c : Int) (ixor ((gndN g ||| covN g c 0 ||| covN g c 1 : Nat) : Int) (-1)) = 0
        · have hW : well g c := ⟨⟨fun _ => l0, fun _ => l1⟩, k.mp h⟩
          simp (disch := omega) only [r30_0, r30_1, r30_4, r30_5, r30_6, r30_7, r30_10, r30_11, r30_12, r30_14, r30_16, r30_17, r30_20, r30_23, r30_24, r30_25, r30_27, r30_30, r30_32, r30_33, r30_34, r30_36, r30_37, r30_40, r30_41, r30_44, r30_46, r30_47, r30_50, r30_51, r30_52, r30_53, r30_55, r30_56, r30_57, r30_60, r30_63, r30_64, r30_65, r30_68, r30_69, r30_70, r30_71, r30_72, r30_75, r30_76, r30_79, r30_80, ↓if_pos, ↓if_neg, x_groundMask hA hg, x_ladenMask hA hg hc, x_standMask hA hg hc, x_coverOf hA hg hc, x_weightOver hA hg hc, Option.bind_some, pushR_s, iadd_eq, Int.reduceAdd, ior_c, if_pos hW]
        · have hW : ¬ well g c := fun q => h (k.mpr q.2)
          simp (disch := omega) only [r30_0, r30_1, r30_4, r30_5, r30_6, r30_7, r30_10, r30_11, r30_12, r30_14, r30_16, r30_17, r30_20, r30_23, r30_24, r30_25, r30_27, r30_30, r30_32, r30_33, r30_34, r30_36, r30_37, r30_40, r30_41, r30_44, r30_46, r30_47, r30_50, r30_51, r30_52, r30_53, r30_55, r30_56, r30_57, r30_60, r30_63, r30_64, r30_65, r30_68, r30_69, r30_70, r30_71, r30_72, r30_75, r30_76, r30_79, r30_80, ↓if_pos, ↓if_neg, x_groundMask hA hg, x_ladenMask hA hg hc, x_standMask hA hg hc, x_coverOf hA hg hc, x_weightOver hA hg hc, Option.bind_some, pushR_s, iadd_eq, Int.reduceAdd, ior_c, if_neg hW]
      · have hW : ¬ well g c := fun q => l1 (q.1.2 (by omega))
        simp (disch := omega) only [r30_0, r30_1, r30_4, r30_5, r30_6, r30_7, r30_10, r30_11, r30_12, r30_14, r30_16, r30_17, r30_20, r30_23, r30_24, r30_25, r30_27, r30_30, r30_32, r30_33, r30_34, r30_36, r30_37, r30_40, r30_41, r30_44, r30_46, r30_47, r30_50, r30_51, r30_52, r30_53, r30_55, r30_56, r30_57, r30_60, r30_63, r30_64, r30_65, r30_68, r30_69, r30_70, r30_71, r30_72, r30_75, r30_76, r30_79, r30_80, ↓if_pos, ↓if_neg, x_groundMask hA hg, x_ladenMask hA hg hc, x_coverOf hA hg hc, x_weightOver hA hg hc, Option.bind_some, pushR_s, iadd_eq, Int.reduceAdd, ior_c, if_neg hW]
    · have hW : ¬ well g c := fun q => l0 (q.1.1 (by omega))
      simp (disch := omega) only [r30_0, r30_1, r30_4, r30_5, r30_6, r30_7, r30_10, r30_11, r30_12, r30_14, r30_16, r30_17, r30_20, r30_23, r30_24, r30_25, r30_27, r30_30, r30_32, r30_33, r30_34, r30_36, r30_37, r30_40, r30_41, r30_44, r30_46, r30_47, r30_50, r30_51, r30_52, r30_53, r30_55, r30_56, r30_57, r30_60, r30_63, r30_64, r30_65, r30_68, r30_69, r30_70, r30_71, r30_72, r30_75, r30_76, r30_79, r30_80, ↓if_pos, ↓if_neg, x_groundMask hA hg, x_ladenMask hA hg hc, x_coverOf hA hg hc, x_weightOver hA hg hc, Option.bind_some, pushR_s, iadd_eq, Int.reduceAdd, ior_c, if_neg hW]
end
section
variable {d : Nat} {I : MM} {g : G} {c w b p : Int}
theorem x_maskOf' (hs : 1 ≤ w ∧ w ≤ 4) (hp : 0 ≤ p ∧ p ≤ 8) : call (d + 1) 19 [vR 10, vI w, vI p] I = some (some (vI (mskN w p)), I) := by
  rw [en19a]
  simp (disch := omega) only [r19_0, r19_1, r19_2, r19_3, r19_4, r19_5, r19_6, r19_7, ishl_msk]
theorem x_groundMask' (hA : At 10 I g) (hg : WG g) : call (d + 1) 23 [vR 10] I = some (some (vI (gndN g)), I) := by
  rw [en23a]
  simp (disch := omega) only [r23_0, r23_1, r23_2a, r23_3a, r23_6, r23_7, r23_8a, r23_9a, r23_12, r23_13, hA.last', hA.isl', gnd_eq hg]
theorem x_coverOf' (hA : At 10 I g) (hg : WG g) (hc : 0 ≤ c ∧ c < 131072) (h0 : 0 ≤ b) (h1 : b < g.nB) : call (d + 2) 20 [vR 10, vI c, vI b] I = some (some (vI (covN g c b)), I) := by
  rw [en20a]
  have hq := bAt_b c b; have h14 := hg.sp14 h0 h1; have := hg.nB2
  by_cases h : bAt c b < 8
  · simp (disch := omega) only [r20_0a, r20_1a, r20_2a, r20_3a, r20_6, r20_7, r20_8, r20_10, r20_13a, r20_14a, r20_15a, r20_18a, r20_19a, r20_20a, r20_21a, r20_24, r20_27, r20_28, ↓if_pos, ↓if_neg, x_boardAt', Option.bind_some, pushR_s, x_maskOf', hA.sp', covN]
  · simp (disch := omega) only [r20_0a, r20_1a, r20_2a, r20_3a, r20_6, r20_7, r20_8, r20_10, r20_13a, r20_14a, r20_15a, r20_18a, r20_19a, r20_20a, r20_21a, r20_24, r20_27, r20_28, ↓if_pos, ↓if_neg, x_boardAt', Option.bind_some, pushR_s, covN]
    rfl
theorem x_boardMask' (hA : At 10 I g) (hg : WG g) (hc : 0 ≤ c ∧ c < 131072) : call (d + 3) 21 [vR 10, vI c] I = some (some (vI (brdN g c)), I) := by
  rw [en21a]
  have e := hA.nB'
  rcases hg.nBc with hn | hn | hn
  · simp (disch := omega) only [r21_0, r21_1, r21_2, r21_3, r21_4, r21_5a, r21_6a, r21_9, r21_12, r21_13a, r21_14a, r21_15a, r21_16a, r21_19, r21_20, r21_21, r21_24, r21_27, r21_28, ↓if_pos, ↓if_neg, brdN]; rfl
  · have h0 := covN_lt hg (c := c) (b := 0) (by omega) (by omega)
    simp (disch := omega) only [r21_0, r21_1, r21_2, r21_3, r21_4, r21_5a, r21_6a, r21_9, r21_12, r21_13a, r21_14a, r21_15a, r21_16a, r21_19, r21_20, r21_21, r21_24, r21_27, r21_28, ↓if_pos, ↓if_neg, x_coverOf' hA hg hc, Option.bind_some, pushR_s, iadd_eq, Int.reduceAdd, ior_0, brdN, Nat.or_zero]
  · have h0 := covN_lt hg (c := c) (b := 0) (by omega) (by omega)
    have h1 := covN_lt hg (c := c) (b := 1) (by omega) (by omega)
    simp (disch := omega) only [r21_0, r21_1, r21_2, r21_3, r21_4, r21_5a, r21_6a, r21_9, r21_12, r21_13a, r21_14a, r21_15a, r21_16a, r21_19, r21_20, r21_21, r21_24, r21_27, r21_28, ↓if_pos, ↓if_neg, x_coverOf' hA hg hc, Option.bind_some, pushR_s, iadd_eq, Int.reduceAdd, ior_0, ior_c, brdN]
theorem x_ladenMask' (hA : At 10 I g) (hg : WG g) (hc : 0 ≤ c ∧ c < 131072) : call (d + 2) 17 [vR 10, vI c] I = some (some (vI (ladN g c)), I) := by
  rw [en17a]
  have e := hA.nB'
  have q0 := bAt_b c 0; have q1 := bAt_b c 1
  have k0 : bAt c 0 < 8 ∨ bAt c 0 = 15 ∨ (8 ≤ bAt c 0 ∧ bAt c 0 ≠ 15) := by omega
  have k1 : bAt c 1 < 8 ∨ bAt c 1 = 15 ∨ (8 ≤ bAt c 1 ∧ bAt c 1 ≠ 15) := by omega
  have l0 := p2_lt (bAt c 0 - 8); have l1 := p2_lt (bAt c 1 - 8)
  rcases hg.nBc with hn | hn | hn
  · simp (disch := omega) only [r17_0, r17_1, r17_2, r17_3, r17_4, r17_5a, r17_6a, r17_9, r17_12a, r17_13a, r17_14a, r17_15a, r17_18, r17_20, r17_22, r17_24, r17_27, r17_29, r17_31, r17_34, r17_35, r17_36, r17_38, r17_40, r17_41, r17_42, r17_43, r17_44, r17_47, r17_50, r17_51, ↓if_pos, ↓if_neg, ladN]; rfl
  · rcases k0 with k0 | k0 | k0 <;> simp (disch := omega) only [r17_0, r17_1, r17_2, r17_3, r17_4, r17_5a, r17_6a, r17_9, r17_12a, r17_13a, r17_14a, r17_15a, r17_18, r17_20, r17_22, r17_24, r17_27, r17_29, r17_31, r17_34, r17_35, r17_36, r17_38, r17_40, r17_41, r17_42, r17_43, r17_44, r17_47, r17_50, r17_51, ↓if_pos, ↓if_neg, x_boardAt', Option.bind_some, pushR_s, iadd_eq, isub_eq, Int.reduceAdd, ishl_p2, ior_0, ior_c, ladN, ladB, Nat.or_zero, Nat.zero_or] <;> rfl
  · rcases k0 with k0 | k0 | k0 <;> rcases k1 with k1 | k1 | k1 <;> simp (disch := omega) only [r17_0, r17_1, r17_2, r17_3, r17_4, r17_5a, r17_6a, r17_9, r17_12a, r17_13a, r17_14a, r17_15a, r17_18, r17_20, r17_22, r17_24, r17_27, r17_29, r17_31, r17_34, r17_35, r17_36, r17_38, r17_40, r17_41, r17_42, r17_43, r17_44, r17_47, r17_50, r17_51, ↓if_pos, ↓if_neg, x_boardAt', Option.bind_some, pushR_s, iadd_eq, isub_eq, Int.reduceAdd, ishl_p2, ior_0, ior_c, ladN, ladB, Nat.or_zero, Nat.zero_or] <;> rfl
theorem x_counts' (hA : At 10 I g) (hg : WG g) (h0 : 0 ≤ w) (h1 : w < g.nW) : call (d + 1) 18 [vR 10, vI w, vI (ladN g c)] I = some (some (vI (cnts g c w)), I) := by
  rw [en18a]
  have hw := hg.nW3; have h9 := hg.wt9 h0 h1; have hl := ladN_lt g c
  have hb : iand (ishr (ladN g c : Int) w) 1 = if carr g c w then 1 else 0 := by
    rw [bit_at (by omega) (by omega)]; simp only [ladN_bit (show 0 ≤ w ∧ w < 3 by omega)]
  by_cases h : carr g c w
  · rw [if_pos h] at hb
    simp (disch := omega) only [r18_0a, r18_1a, r18_4a, r18_5a, r18_6, r18_7, r18_8, r18_9, r18_10, r18_11, r18_12, r18_15, r18_16, r18_19, r18_20, r18_21, ↓if_pos, ↓if_neg, hA.wt', iadd_eq, cnts, if_pos h]
  · rw [if_neg h] at hb
    simp (disch := omega) only [r18_0a, r18_1a, r18_4a, r18_5a, r18_6, r18_7, r18_8, r18_9, r18_10, r18_11, r18_12, r18_15, r18_16, r18_19, r18_20, r18_21, ↓if_pos, ↓if_neg, hA.wt', iadd_eq, cnts, if_neg h]
theorem x_weightOver' (hA : At 10 I g) (hg : WG g) (hc : 0 ≤ c ∧ c < 131072) (h0 : 0 ≤ b) (h1 : b < g.nB) : call (d + 2) 29 [vR 10, vI c, vI (covN g c b), vI (ladN g c)] I = some (some (vI (load g c b)), I) := by
  rw [en29a]
  have e := hA.nW'; have hl := covN_lt hg (c := c) h0 h1
  have hb : ∀ w, iand (ishr (covN g c b : Int) (wAt c w)) 1 = if cov g c b (wAt c w) then 1 else 0 := fun w => by
    have := wAt_b c w
    rw [bit_at (by omega) (by omega)]; simp only [covN_bit (show 0 ≤ wAt c w by omega)]
  have hcv : ∀ w, (cv g c b w = cnts g c w ∧ iand (ishr (covN g c b : Int) (wAt c w)) 1 = 1) ∨ (cv g c b w = 0 ∧ iand (ishr (covN g c b : Int) (wAt c w)) 1 = 0) := fun w => by
    by_cases h : cov g c b (wAt c w)
    · exact Or.inl ⟨if_pos h, (hb w).trans (if_pos h)⟩
    · exact Or.inr ⟨if_neg h, (hb w).trans (if_neg h)⟩
  rcases hg.nWc with hn | hn | hn | hn
  · simp (disch := omega) only [r29_0, r29_1, r29_3, r29_4, r29_6, r29_8a, r29_9a, r29_12, r29_15, r29_16a, r29_17a, r29_18a, r29_20a, r29_23, r29_24, r29_25, r29_26, r29_27, r29_30, r29_32a, r29_33a, r29_35a, r29_36a, r29_39, r29_40, r29_42, r29_45, r29_48, r29_50, ↓if_pos, ↓if_neg, load]; simp [hn]
  · have n0 := cnts_b hg (c := c) (w := 0) (by omega) (by omega)
    rcases hcv 0 with ⟨z0, hb0⟩ | ⟨z0, hb0⟩ <;>
    simp (disch := omega) only [r29_0, r29_1, r29_3, r29_4, r29_6, r29_8a, r29_9a, r29_12, r29_15, r29_16a, r29_17a, r29_18a, r29_20a, r29_23, r29_24, r29_25, r29_26, r29_27, r29_30, r29_32a, r29_33a, r29_35a, r29_36a, r29_39, r29_40, r29_42, r29_45, r29_48, r29_50, ↓if_pos, ↓if_neg, x_walkerAt', x_counts' hA hg, Option.bind_some, pushR_s, iadd_eq, Int.reduceAdd] <;> simp [load, hn, z0]
  · have n0 := cnts_b hg (c := c) (w := 0) (by omega) (by omega)
    have n1 := cnts_b hg (c := c) (w := 1) (by omega) (by omega)
    rcases hcv 0 with ⟨z0, hb0⟩ | ⟨z0, hb0⟩ <;> rcases hcv 1 with ⟨z1, hb1⟩ | ⟨z1, hb1⟩ <;>
    simp (disch := omega) only [r29_0, r29_1, r29_3, r29_4, r29_6, r29_8a, r29_9a, r29_12, r29_15, r29_16a, r29_17a, r29_18a, r29_20a, r29_23, r29_24, r29_25, r29_26, r29_27, r29_30, r29_32a, r29_33a, r29_35a, r29_36a, r29_39, r29_40, r29_42, r29_45, r29_48, r29_50, ↓if_pos, ↓if_neg, x_walkerAt', x_counts' hA hg, Option.bind_some, pushR_s, iadd_eq, Int.reduceAdd] <;> simp [load, hn, z0, z1]
  · have n0 := cnts_b hg (c := c) (w := 0) (by omega) (by omega)
    have n1 := cnts_b hg (c := c) (w := 1) (by omega) (by omega)
    have n2 := cnts_b hg (c := c) (w := 2) (by omega) (by omega)
    rcases hcv 0 with ⟨z0, hb0⟩ | ⟨z0, hb0⟩ <;> rcases hcv 1 with ⟨z1, hb1⟩ | ⟨z1, hb1⟩ <;> rcases hcv 2 with ⟨z2, hb2⟩ | ⟨z2, hb2⟩ <;>
    simp (disch := omega) only [r29_0, r29_1, r29_3, r29_4, r29_6, r29_8a, r29_9a, r29_12, r29_15, r29_16a, r29_17a, r29_18a, r29_20a, r29_23, r29_24, r29_25, r29_26, r29_27, r29_30, r29_32a, r29_33a, r29_35a, r29_36a, r29_39, r29_40, r29_42, r29_45, r29_48, r29_50, ↓if_pos, ↓if_neg, x_walkerAt', x_counts' hA hg, Option.bind_some, pushR_s, iadd_eq, Int.reduceAdd] <;> simp [load, hn, z0, z1, z2]
theorem x_standMask' (hA : At 10 I g) (hg : WG g) (hc : 0 ≤ c ∧ c < 131072) : call (d + 2) 24 [vR 10, vI c] I = some (some (vI (stdN g c)), I) := by
  rw [en24a, stdN_p2]
  have e := hA.nW'
  have q0 := wAt_b c 0; have q1 := wAt_b c 1; have q2 := wAt_b c 2
  have l0 := p2_lt (wAt c 0); have l1 := p2_lt (wAt c 1); have l2 := p2_lt (wAt c 2)
  have l3 : p2 (wAt c 0) ||| p2 (wAt c 1) < 65536 := Nat.or_lt_two_pow (n := 16) l0 l1
  rcases hg.nWc with hn | hn | hn | hn
  · simp (disch := omega) only [r24_0, r24_1, r24_2, r24_3, r24_4, r24_5a, r24_6a, r24_9, r24_12, r24_13, r24_14a, r24_15a, r24_16a, r24_17a, r24_20, r24_21, r24_22, r24_23, r24_26, r24_29, r24_30, ↓if_pos, ↓if_neg]; rfl
  all_goals simp (disch := omega) only [r24_0, r24_1, r24_2, r24_3, r24_4, r24_5a, r24_6a, r24_9, r24_12, r24_13, r24_14a, r24_15a, r24_16a, r24_17a, r24_20, r24_21, r24_22, r24_23, r24_26, r24_29, r24_30, ↓if_pos, ↓if_neg, x_walkerAt', Option.bind_some, pushR_s, iadd_eq, Int.reduceAdd, ishl_p2, ior_0, ior_c, Nat.or_zero]
theorem x_isWell' (hA : At 10 I g) (hg : WG g) (hc : 0 ≤ c ∧ c < 131072) : call (d + 3) 30 [vR 10, vI c] I = some (some (vI (if well g c then 1 else 0)), I) := by
  rw [en30a]
  have e := hA.nB'; have hgl := gndN_lt hg; have hsl := stdN_lt (g := g) (c := c)
  have es0 := hA.st' 0; have es1 := hA.st' 1
  have key : ∀ n : Nat, n < 4096 → (∀ p, 0 ≤ p → (n.testBit p.toNat = true ↔ hold g c p)) → (iand (stdN g c : Int) (ixor (n : Int) (-1)) = 0 ↔ stays g c = true) := by
    intro n hn hh
    rw [and_not (by omega) (by omega), stays_iff]
    constructor
    · intro h
      refine ⟨fun a => ?_, fun a => ?_, fun a => ?_⟩
      · exact (hh _ (wAt_b c 0).1).mp (h _ ((stdN_bit (wAt_b c 0).1).mpr (Or.inl ⟨a, rfl⟩)))
      · exact (hh _ (wAt_b c 1).1).mp (h _ ((stdN_bit (wAt_b c 1).1).mpr (Or.inr (Or.inl ⟨a, rfl⟩))))
      · exact (hh _ (wAt_b c 2).1).mp (h _ ((stdN_bit (wAt_b c 2).1).mpr (Or.inr (Or.inr ⟨a, rfl⟩))))
    · rintro ⟨a0, a1, a2⟩ i hi
      have h1 := (stdN_bit (g := g) (c := c) (p := (i : Int)) (by omega)).mp (by simpa using hi)
      have h2 := (hh (i : Int) (by omega)).mpr
      simp only [Int.toNat_natCast] at h2
      apply h2
      rcases h1 with ⟨h, e⟩ | ⟨h, e⟩ | ⟨h, e⟩
      · rw [← e]; exact a0 h
      · rw [← e]; exact a1 h
      · rw [← e]; exact a2 h
  rcases hg.nBc with hn | hn | hn
  · have k := key (gndN g) hgl (fun p hp => by rw [gndN_bit hg hp]; simp [hold, covd, hn])
    by_cases h : iand (stdN g c : Int) (ixor (gndN g : Int) (-1)) = 0
    · have hW : well g c := by
        refine ⟨⟨by omega, by omega⟩, k.mp h⟩
      simp (disch := omega) only [r30_0a, r30_1a, r30_4, r30_5a, r30_6a, r30_7a, r30_10, r30_11, r30_12, r30_14, r30_16a, r30_17a, r30_20, r30_23a, r30_24a, r30_25a, r30_27a, r30_30, r30_32a, r30_33a, r30_34a, r30_36a, r30_37a, r30_40a, r30_41a, r30_44a, r30_46a, r30_47, r30_50, r30_51, r30_52, r30_53, r30_55, r30_56, r30_57, r30_60, r30_63a, r30_64a, r30_65a, r30_68, r30_69, r30_70, r30_71, r30_72, r30_75, r30_76, r30_79, r30_80, ↓if_pos, ↓if_neg, x_groundMask' hA hg, x_ladenMask' hA hg hc, x_standMask' hA hg hc, Option.bind_some, pushR_s, if_pos hW]
    · have hW : ¬ well g c := fun q => h (k.mpr q.2)
      simp (disch := omega) only [r30_0a, r30_1a, r30_4, r30_5a, r30_6a, r30_7a, r30_10, r30_11, r30_12, r30_14, r30_16a, r30_17a, r30_20, r30_23a, r30_24a, r30_25a, r30_27a, r30_30, r30_32a, r30_33a, r30_34a, r30_36a, r30_37a, r30_40a, r30_41a, r30_44a, r30_46a, r30_47, r30_50, r30_51, r30_52, r30_53, r30_55, r30_56, r30_57, r30_60, r30_63a, r30_64a, r30_65a, r30_68, r30_69, r30_70, r30_71, r30_72, r30_75, r30_76, r30_79, r30_80, ↓if_pos, ↓if_neg, x_groundMask' hA hg, x_ladenMask' hA hg hc, x_standMask' hA hg hc, Option.bind_some, pushR_s, if_neg hW]
  · have c0 := covN_lt hg (c := c) (b := 0) (by omega) (by omega)
    have hor : gndN g ||| covN g c 0 < 4096 := Nat.or_lt_two_pow (n := 12) hgl c0
    have k := key (gndN g ||| covN g c 0) hor (fun p hp => by rw [Nat.testBit_or, Bool.or_eq_true, gndN_bit hg hp, covN_bit hp]; simp [hold, covd, hn])
    by_cases l0 : load g c 0 ≤ g.st 0
    · by_cases h : iand (stdN g c : Int) (ixor ((gndN g ||| covN g c 0 : Nat) : Int) (-1)) = 0
      · have hW : well g c := ⟨⟨fun _ => l0, by omega⟩, k.mp h⟩
        simp (disch := omega) only [r30_0a, r30_1a, r30_4, r30_5a, r30_6a, r30_7a, r30_10, r30_11, r30_12, r30_14, r30_16a, r30_17a, r30_20, r30_23a, r30_24a, r30_25a, r30_27a, r30_30, r30_32a, r30_33a, r30_34a, r30_36a, r30_37a, r30_40a, r30_41a, r30_44a, r30_46a, r30_47, r30_50, r30_51, r30_52, r30_53, r30_55, r30_56, r30_57, r30_60, r30_63a, r30_64a, r30_65a, r30_68, r30_69, r30_70, r30_71, r30_72, r30_75, r30_76, r30_79, r30_80, ↓if_pos, ↓if_neg, x_groundMask' hA hg, x_ladenMask' hA hg hc, x_standMask' hA hg hc, x_coverOf' hA hg hc, x_weightOver' hA hg hc, Option.bind_some, pushR_s, iadd_eq, Int.reduceAdd, ior_c, if_pos hW]
      · have hW : ¬ well g c := fun q => h (k.mpr q.2)
        simp (disch := omega) only [r30_0a, r30_1a, r30_4, r30_5a, r30_6a, r30_7a, r30_10, r30_11, r30_12, r30_14, r30_16a, r30_17a, r30_20, r30_23a, r30_24a, r30_25a, r30_27a, r30_30, r30_32a, r30_33a, r30_34a, r30_36a, r30_37a, r30_40a, r30_41a, r30_44a, r30_46a, r30_47, r30_50, r30_51, r30_52, r30_53, r30_55, r30_56, r30_57, r30_60, r30_63a, r30_64a, r30_65a, r30_68, r30_69, r30_70, r30_71, r30_72, r30_75, r30_76, r30_79, r30_80, ↓if_pos, ↓if_neg, x_groundMask' hA hg, x_ladenMask' hA hg hc, x_standMask' hA hg hc, x_coverOf' hA hg hc, x_weightOver' hA hg hc, Option.bind_some, pushR_s, iadd_eq, Int.reduceAdd, ior_c, if_neg hW]
    · have hW : ¬ well g c := fun q => l0 (q.1.1 (by omega))
      simp (disch := omega) only [r30_0a, r30_1a, r30_4, r30_5a, r30_6a, r30_7a, r30_10, r30_11, r30_12, r30_14, r30_16a, r30_17a, r30_20, r30_23a, r30_24a, r30_25a, r30_27a, r30_30, r30_32a, r30_33a, r30_34a, r30_36a, r30_37a, r30_40a, r30_41a, r30_44a, r30_46a, r30_47, r30_50, r30_51, r30_52, r30_53, r30_55, r30_56, r30_57, r30_60, r30_63a, r30_64a, r30_65a, r30_68, r30_69, r30_70, r30_71, r30_72, r30_75, r30_76, r30_79, r30_80, ↓if_pos, ↓if_neg, x_groundMask' hA hg, x_ladenMask' hA hg hc, x_coverOf' hA hg hc, x_weightOver' hA hg hc, Option.bind_some, pushR_s, iadd_eq, Int.reduceAdd, ior_c, if_neg hW]
  · have c0 := covN_lt hg (c := c) (b := 0) (by omega) (by omega)
    have c1 := covN_lt hg (c := c) (b := 1) (by omega) (by omega)
    have hor : gndN g ||| covN g c 0 < 4096 := Nat.or_lt_two_pow (n := 12) hgl c0
    have hor1 : gndN g ||| covN g c 0 ||| covN g c 1 < 4096 := Nat.or_lt_two_pow (n := 12) hor c1
    have k := key (gndN g ||| covN g c 0 ||| covN g c 1) hor1 (fun p hp => by rw [Nat.testBit_or, Bool.or_eq_true, Nat.testBit_or, Bool.or_eq_true, gndN_bit hg hp, covN_bit hp, covN_bit hp]; simp [hold, covd, hn, or_assoc])
    by_cases l0 : load g c 0 ≤ g.st 0
    · by_cases l1 : load g c 1 ≤ g.st 1
      · by_cases h : iand (stdN g c : Int) (ixor ((gndN g ||| covN g c 0 ||| covN g c 1 : Nat) : Int) (-1)) = 0
        · have hW : well g c := ⟨⟨fun _ => l0, fun _ => l1⟩, k.mp h⟩
          simp (disch := omega) only [r30_0a, r30_1a, r30_4, r30_5a, r30_6a, r30_7a, r30_10, r30_11, r30_12, r30_14, r30_16a, r30_17a, r30_20, r30_23a, r30_24a, r30_25a, r30_27a, r30_30, r30_32a, r30_33a, r30_34a, r30_36a, r30_37a, r30_40a, r30_41a, r30_44a, r30_46a, r30_47, r30_50, r30_51, r30_52, r30_53, r30_55, r30_56, r30_57, r30_60, r30_63a, r30_64a, r30_65a, r30_68, r30_69, r30_70, r30_71, r30_72, r30_75, r30_76, r30_79, r30_80, ↓if_pos, ↓if_neg, x_groundMask' hA hg, x_ladenMask' hA hg hc, x_standMask' hA hg hc, x_coverOf' hA hg hc, x_weightOver' hA hg hc, Option.bind_some, pushR_s, iadd_eq, Int.reduceAdd, ior_c, if_pos hW]
        · have hW : ¬ well g c := fun q => h (k.mpr q.2)
          simp (disch := omega) only [r30_0a, r30_1a, r30_4, r30_5a, r30_6a, r30_7a, r30_10, r30_11, r30_12, r30_14, r30_16a, r30_17a, r30_20, r30_23a, r30_24a, r30_25a, r30_27a, r30_30, r30_32a, r30_33a, r30_34a, r30_36a, r30_37a, r30_40a, r30_41a, r30_44a, r30_46a, r30_47, r30_50, r30_51, r30_52, r30_53, r30_55, r30_56, r30_57, r30_60, r30_63a, r30_64a, r30_65a, r30_68, r30_69, r30_70, r30_71, r30_72, r30_75, r30_76, r30_79, r30_80, ↓if_pos, ↓if_neg, x_groundMask' hA hg, x_ladenMask' hA hg hc, x_standMask' hA hg hc, x_coverOf' hA hg hc, x_weightOver' hA hg hc, Option.bind_some, pushR_s, iadd_eq, Int.reduceAdd, ior_c, if_neg hW]
      · have hW : ¬ well g c := fun q => l1 (q.1.2 (by omega))
        simp (disch := omega) only [r30_0a, r30_1a, r30_4, r30_5a, r30_6a, r30_7a, r30_10, r30_11, r30_12, r30_14, r30_16a, r30_17a, r30_20, r30_23a, r30_24a, r30_25a, r30_27a, r30_30, r30_32a, r30_33a, r30_34a, r30_36a, r30_37a, r30_40a, r30_41a, r30_44a, r30_46a, r30_47, r30_50, r30_51, r30_52, r30_53, r30_55, r30_56, r30_57, r30_60, r30_63a, r30_64a, r30_65a, r30_68, r30_69, r30_70, r30_71, r30_72, r30_75, r30_76, r30_79, r30_80, ↓if_pos, ↓if_neg, x_groundMask' hA hg, x_ladenMask' hA hg hc, x_coverOf' hA hg hc, x_weightOver' hA hg hc, Option.bind_some, pushR_s, iadd_eq, Int.reduceAdd, ior_c, if_neg hW]
    · have hW : ¬ well g c := fun q => l0 (q.1.1 (by omega))
      simp (disch := omega) only [r30_0a, r30_1a, r30_4, r30_5a, r30_6a, r30_7a, r30_10, r30_11, r30_12, r30_14, r30_16a, r30_17a, r30_20, r30_23a, r30_24a, r30_25a, r30_27a, r30_30, r30_32a, r30_33a, r30_34a, r30_36a, r30_37a, r30_40a, r30_41a, r30_44a, r30_46a, r30_47, r30_50, r30_51, r30_52, r30_53, r30_55, r30_56, r30_57, r30_60, r30_63a, r30_64a, r30_65a, r30_68, r30_69, r30_70, r30_71, r30_72, r30_75, r30_76, r30_79, r30_80, ↓if_pos, ↓if_neg, x_groundMask' hA hg, x_ladenMask' hA hg hc, x_coverOf' hA hg hc, x_weightOver' hA hg hc, Option.bind_some, pushR_s, iadd_eq, Int.reduceAdd, ior_c, if_neg hW]
end
