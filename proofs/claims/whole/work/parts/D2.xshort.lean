/-! The fraction of the class: sums, parts, sizes. -/
def red (p : Int) : Nat → Int → Int → Int × Int
  | 0, a, b => (a, b)
  | f + 1, a, b => if a % p = 0 ∧ b % p = 0 then red p f (a / p) (b / p) else (a, b)
def FrN2 (I J : MM) : Prop := ∀ b i, b ≠ 37 → b ≠ 38 → J b i = I b i
section
variable {d : Nat} {I J K : MM} {v f p u n : Int}
theorem x_addTerm (hA : XN4 I 37 v) (hT : XN4 I 39 u) (hb : v + u < 1329227995784915872903807060280344576) : ∃ K, call (d + 1) 43 [vR 36] I = some (none, K) ∧ XN4 K 37 (v + u) ∧ FrN1 37 I K := by
  obtain ⟨l0, l1, l2, l3⟩ := hA.l
  obtain ⟨t0, t1, t2, t3⟩ := hT.l
  have ha : ∀ i, 0 ≤ lmb v i ∧ lmb v i < 1073741824 := lmb_r
  have ht : ∀ i, 0 ≤ lmb u i ∧ lmb u i < 1073741824 := lmb_r
  have ha0 := ha 0; have ha1 := ha 1; have ha2 := ha 2; have ha3 := ha 3
  have ht0 := ht 0; have ht1 := ht 1; have ht2 := ht 2; have ht3 := ht 3
  have hw : v + u = (lmb v 0 + lmb u 0) + (lmb v 1 + lmb u 1) * 1073741824 + (lmb v 2 + lmb u 2) * 1152921504606846976 + (lmb v 3 + lmb u 3) * 1237940039285380274899124224 := by
    have e1 := val4 hA.1
    have e2 := val4 hT.1
    omega
  obtain ⟨r0, r1, r2, r3⟩ := carry4 (p0 := lmb v 0 + lmb u 0) (p1 := lmb v 1 + lmb u 1) (p2 := lmb v 2 + lmb u 2) (p3 := lmb v 3 + lmb u 3) (by omega) (by omega) (by omega) (by omega) hw hb
  have hv0 : 0 ≤ v + u := by have := hA.1; have := hT.1; omega
  refine ⟨mset (mset (mset (mset I 37 0 (lmb (v + u) 0)) 37 1 (lmb (v + u) 1)) 37 2 (lmb (v + u) 2)) 37 3 (lmb (v + u) 3), ?_, XN4.of ⟨hv0, hb⟩ (by simp [mset_at]) (by simp [mset_at]) (by simp [mset_at]) (by simp [mset_at]), fun b i h => ?_⟩
  · rw [en43, ← r0, ← r1, ← r2, ← r3]
    clear hw r0 r1 r2 r3 hb hv0 ha ht
    simp (disch := omega) only [r43_0, r43_1, r43_2, r43_3, r43_4, r43_5, r43_6, r43_9, r43_10, r43_11, r43_14, r43_15, r43_16, r43_17, r43_20, r43_21, r43_22, r43_23, r43_24, r43_25, r43_26, r43_29, r43_30, r43_31, r43_34, r43_35, r43_36, r43_37, r43_39, r43_40, r43_41, r43_44, r43_47, ↓if_pos, ↓if_neg, kill, l0, l1, l2, l3, t0, t1, t2, t3, mset_at, ladd_eq, land30, lshr30, iadd_eq, Int.reduceAdd, Int.zero_add]
  · rw [mset_at, if_neg (fun q => h q.1), mset_at, if_neg (fun q => h q.1), mset_at, if_neg (fun q => h q.1), mset_at, if_neg (fun q => h q.1)]
theorem valH (hv : 0 ≤ v ∧ v < 1329227995784915872903807060280344576) : v / 1237940039285380274899124224 = 0 * 1073741824 + lmb v 3 ∧ v / 1152921504606846976 = (0 * 1073741824 + lmb v 3) * 1073741824 + lmb v 2 ∧ v / 1073741824 = ((0 * 1073741824 + lmb v 3) * 1073741824 + lmb v 2) * 1073741824 + lmb v 1 ∧ v = (((0 * 1073741824 + lmb v 3) * 1073741824 + lmb v 2) * 1073741824 + lmb v 1) * 1073741824 + lmb v 0 := by
  have c1 : v / 1073741824 / 1073741824 = v / 1152921504606846976 := by rw [Int.ediv_ediv_of_nonneg (by decide)]; rfl
  have c2 : v / 1152921504606846976 / 1073741824 = v / 1237940039285380274899124224 := by rw [Int.ediv_ediv_of_nonneg (by decide)]; rfl
  have b3 : v / 1237940039285380274899124224 < 1073741824 ∧ 0 ≤ v / 1237940039285380274899124224 := by omega
  rw [lmb3, lmb2, lmb1, lmb0]
  generalize v / 1237940039285380274899124224 = w3 at *
  generalize v / 1152921504606846976 = w2 at *
  generalize hw1 : v / 1073741824 = w1 at *
  have h3 : w3 % 1073741824 = w3 := Int.emod_eq_of_lt b3.2 b3.1
  rw [h3]
  have h2 : w2 = w3 * 1073741824 + w2 % 1073741824 := by omega
  have h1 : w1 = w2 * 1073741824 + w1 % 1073741824 := by omega
  have h0 : v = w1 * 1073741824 + v % 1073741824 := by omega
  refine ⟨by omega, by omega, ?_, ?_⟩
  · rw [Int.zero_mul, Int.zero_add, ← h2]; exact h1
  · rw [Int.zero_mul, Int.zero_add, ← h2, ← h1]; exact h0
theorem horner2 (hv : 0 ≤ v ∧ v < 1329227995784915872903807060280344576) : (((0 * 1073741824 + lmb v 3) % 2 * 1073741824 + lmb v 2) % 2 * 1073741824 + lmb v 1) % 2 * 1073741824 + lmb v 0 ≥ 0 ∧ ((((0 * 1073741824 + lmb v 3) % 2 * 1073741824 + lmb v 2) % 2 * 1073741824 + lmb v 1) % 2 * 1073741824 + lmb v 0) % 2 = v % 2 := by
  have e := val4 hv
  have h0 := lmb_r (v := v) 0; have h1 := lmb_r (v := v) 1; have h2 := lmb_r (v := v) 2; have h3 := lmb_r (v := v) 3
  omega
theorem stp2 (h l : Int) (hh : 0 ≤ h) (hl : 0 ≤ l ∧ l < 1073741824) : (h % 2 * 1073741824 + l) / 2 = (h * 1073741824 + l) / 2 % 1073741824 ∧ (h % 2 * 1073741824 + l) % 2 = (h * 1073741824 + l) % 2 := by omega
theorem parts2 (hv : 0 ≤ v ∧ v < 1329227995784915872903807060280344576) : (0 * 1073741824 + lmb v 3) / 2 = lmb (v / 2) 3 ∧ ((0 * 1073741824 + lmb v 3) % 2 * 1073741824 + lmb v 2) / 2 = lmb (v / 2) 2 ∧ (((0 * 1073741824 + lmb v 3) % 2 * 1073741824 + lmb v 2) % 2 * 1073741824 + lmb v 1) / 2 = lmb (v / 2) 1 ∧ ((((0 * 1073741824 + lmb v 3) % 2 * 1073741824 + lmb v 2) % 2 * 1073741824 + lmb v 1) % 2 * 1073741824 + lmb v 0) / 2 = lmb (v / 2) 0 := by
  have c : ∀ k : Int, 0 ≤ k → v / 2 / k = v / k / 2 := fun k hk => by rw [Int.ediv_ediv_of_nonneg (by decide), Int.ediv_ediv_of_nonneg hk, Int.mul_comm]
  have e3 : lmb (v / 2) 3 = v / 1237940039285380274899124224 / 2 % 1073741824 := by rw [lmb3, c _ (by decide)]
  have e2 : lmb (v / 2) 2 = v / 1152921504606846976 / 2 % 1073741824 := by rw [lmb2, c _ (by decide)]
  have e1 : lmb (v / 2) 1 = v / 1073741824 / 2 % 1073741824 := by rw [lmb1, c _ (by decide)]
  have e0 : lmb (v / 2) 0 = v / 2 % 1073741824 := lmb0
  have h0 := lmb_r (v := v) 0; have h1 := lmb_r (v := v) 1; have h2 := lmb_r (v := v) 2; have h3 := lmb_r (v := v) 3
  obtain ⟨H3, H2, H1, H0⟩ := valH hv
  rw [e3, e2, e1, e0, H3, H2, H1]
  have H0' : v / 2 % 1073741824 = ((((0 * 1073741824 + lmb v 3) * 1073741824 + lmb v 2) * 1073741824 + lmb v 1) * 1073741824 + lmb v 0) / 2 % 1073741824 := congrArg (fun z => z / 2 % 1073741824) H0
  rw [H0']
  clear e0 e1 e2 e3 H0 H0' H1 H2 H3 c hv
  generalize lmb v 0 = l0 at *
  generalize lmb v 1 = l1 at *
  generalize lmb v 2 = l2 at *
  generalize lmb v 3 = l3 at *
  have s3 := stp2 0 l3 (by omega) h3
  obtain ⟨s2, s2'⟩ := stp2 (0 * 1073741824 + l3) l2 (by omega) h2
  obtain ⟨s1, s1'⟩ := stp2 ((0 * 1073741824 + l3) * 1073741824 + l2) l1 (by omega) h1
  obtain ⟨s0, -⟩ := stp2 (((0 * 1073741824 + l3) * 1073741824 + l2) * 1073741824 + l1) l0 (by omega) h0
  rw [← s2'] at s1
  rw [← s1', ← s2'] at s0
  refine ⟨by omega, s2, s1, s0⟩
theorem horner5 (hv : 0 ≤ v ∧ v < 1329227995784915872903807060280344576) : (((0 * 1073741824 + lmb v 3) % 5 * 1073741824 + lmb v 2) % 5 * 1073741824 + lmb v 1) % 5 * 1073741824 + lmb v 0 ≥ 0 ∧ ((((0 * 1073741824 + lmb v 3) % 5 * 1073741824 + lmb v 2) % 5 * 1073741824 + lmb v 1) % 5 * 1073741824 + lmb v 0) % 5 = v % 5 := by
  have e := val4 hv
  have h0 := lmb_r (v := v) 0; have h1 := lmb_r (v := v) 1; have h2 := lmb_r (v := v) 2; have h3 := lmb_r (v := v) 3
  omega
theorem stp5 (h l : Int) (hh : 0 ≤ h) (hl : 0 ≤ l ∧ l < 1073741824) : (h % 5 * 1073741824 + l) / 5 = (h * 1073741824 + l) / 5 % 1073741824 ∧ (h % 5 * 1073741824 + l) % 5 = (h * 1073741824 + l) % 5 := by omega
theorem parts5 (hv : 0 ≤ v ∧ v < 1329227995784915872903807060280344576) : (0 * 1073741824 + lmb v 3) / 5 = lmb (v / 5) 3 ∧ ((0 * 1073741824 + lmb v 3) % 5 * 1073741824 + lmb v 2) / 5 = lmb (v / 5) 2 ∧ (((0 * 1073741824 + lmb v 3) % 5 * 1073741824 + lmb v 2) % 5 * 1073741824 + lmb v 1) / 5 = lmb (v / 5) 1 ∧ ((((0 * 1073741824 + lmb v 3) % 5 * 1073741824 + lmb v 2) % 5 * 1073741824 + lmb v 1) % 5 * 1073741824 + lmb v 0) / 5 = lmb (v / 5) 0 := by
  have c : ∀ k : Int, 0 ≤ k → v / 5 / k = v / k / 5 := fun k hk => by rw [Int.ediv_ediv_of_nonneg (by decide), Int.ediv_ediv_of_nonneg hk, Int.mul_comm]
  have e3 : lmb (v / 5) 3 = v / 1237940039285380274899124224 / 5 % 1073741824 := by rw [lmb3, c _ (by decide)]
  have e2 : lmb (v / 5) 2 = v / 1152921504606846976 / 5 % 1073741824 := by rw [lmb2, c _ (by decide)]
  have e1 : lmb (v / 5) 1 = v / 1073741824 / 5 % 1073741824 := by rw [lmb1, c _ (by decide)]
  have e0 : lmb (v / 5) 0 = v / 5 % 1073741824 := lmb0
  have h0 := lmb_r (v := v) 0; have h1 := lmb_r (v := v) 1; have h2 := lmb_r (v := v) 2; have h3 := lmb_r (v := v) 3
  obtain ⟨H3, H2, H1, H0⟩ := valH hv
  rw [e3, e2, e1, e0, H3, H2, H1]
  have H0' : v / 5 % 1073741824 = ((((0 * 1073741824 + lmb v 3) * 1073741824 + lmb v 2) * 1073741824 + lmb v 1) * 1073741824 + lmb v 0) / 5 % 1073741824 := congrArg (fun z => z / 5 % 1073741824) H0
  rw [H0']
  clear e0 e1 e2 e3 H0 H0' H1 H2 H3 c hv
  generalize lmb v 0 = l0 at *
  generalize lmb v 1 = l1 at *
  generalize lmb v 2 = l2 at *
  generalize lmb v 3 = l3 at *
  have s3 := stp5 0 l3 (by omega) h3
  obtain ⟨s2, s2'⟩ := stp5 (0 * 1073741824 + l3) l2 (by omega) h2
  obtain ⟨s1, s1'⟩ := stp5 ((0 * 1073741824 + l3) * 1073741824 + l2) l1 (by omega) h1
  obtain ⟨s0, -⟩ := stp5 (((0 * 1073741824 + l3) * 1073741824 + l2) * 1073741824 + l1) l0 (by omega) h0
  rw [← s2'] at s1
  rw [← s1', ← s2'] at s0
  refine ⟨by omega, s2, s1, s0⟩
theorem x_isMul2_37 (hN : XN4 I 37 v) : call (d + 1) 46 [vR 36, vR 37, vI 2] I = some (some (vI (if v % 2 = 0 then 1 else 0)), I) := by
  obtain ⟨l0, l1, l2, l3⟩ := hN.l
  have h0 := lmb_r (v := v) 0; have h1 := lmb_r (v := v) 1; have h2 := lmb_r (v := v) 2; have h3 := lmb_r (v := v) 3
  obtain ⟨-, e⟩ := horner2 hN.1
  rw [en46]
  by_cases h : v % 2 = 0
  · rw [if_pos h]
    rw [h] at e
    clear h
    simp (disch := omega) only [r46_0, r46_1, r46_2, r46_3, r46_5, r46_7, r46_10, r46_11, r46_13, r46_14, r46_15, r46_17, r46_18, r46_19, r46_20, r46_21, r46_22, r46_23, r46_26, r46_29, r46_30, r46_31, r46_32, r46_35, r46_36, r46_39, r46_40, ↓if_pos, ↓if_neg, kill, l0, l1, l2, l3, lshl30, lor30, lrem_pos, iadd_eq, Int.reduceAdd, Int.reduceNeg, e]
  · rw [if_neg h]
    rw [← e] at h
    clear e
    simp (disch := first | omega | exact h) only [r46_0, r46_1, r46_2, r46_3, r46_5, r46_7, r46_10, r46_11, r46_13, r46_14, r46_15, r46_17, r46_18, r46_19, r46_20, r46_21, r46_22, r46_23, r46_26, r46_29, r46_30, r46_31, r46_32, r46_35, r46_36, r46_39, r46_40, ↓if_pos, ↓if_neg, kill, l0, l1, l2, l3, lshl30, lor30, lrem_pos, iadd_eq, Int.reduceAdd, Int.reduceNeg]
theorem x_div2_37 (hN : XN4 I 37 v) : ∃ K, call (d + 1) 47 [vR 36, vR 37, vI 2] I = some (none, K) ∧ XN4 K 37 (v / 2) ∧ FrN1 37 I K := by
  obtain ⟨l0, l1, l2, l3⟩ := hN.l
  have h0 := lmb_r (v := v) 0; have h1 := lmb_r (v := v) 1; have h2 := lmb_r (v := v) 2; have h3 := lmb_r (v := v) 3
  obtain ⟨r3, r2, r1, r0⟩ := parts2 hN.1
  have hv := hN.1
  refine ⟨mset (mset (mset (mset I 37 3 (lmb (v / 2) 3)) 37 2 (lmb (v / 2) 2)) 37 1 (lmb (v / 2) 1)) 37 0 (lmb (v / 2) 0), ?_, XN4.of ⟨by omega, by omega⟩ (by simp [mset_at]) (by simp [mset_at]) (by simp [mset_at]) (by simp [mset_at]), fun b i h => ?_⟩
  · rw [en47, ← r0, ← r1, ← r2, ← r3]
    clear r0 r1 r2 r3 hv
    simp (disch := omega) only [r47_0, r47_1, r47_2, r47_3, r47_5, r47_7, r47_10, r47_11, r47_13, r47_14, r47_15, r47_17, r47_18, r47_19, r47_21, r47_22, r47_24, r47_26, r47_27, r47_28, r47_29, r47_30, r47_32, r47_33, r47_34, r47_35, r47_36, r47_39, r47_42, ↓if_pos, ↓if_neg, kill, l0, l1, l2, l3, mset_at, lshl30, lor30, lrem_pos, ldiv_pos, iadd_eq, Int.reduceAdd, Int.reduceNeg]
  · rw [mset_at, if_neg (fun q => h q.1), mset_at, if_neg (fun q => h q.1), mset_at, if_neg (fun q => h q.1), mset_at, if_neg (fun q => h q.1)]
theorem x_isMul5_37 (hN : XN4 I 37 v) : call (d + 1) 46 [vR 36, vR 37, vI 5] I = some (some (vI (if v % 5 = 0 then 1 else 0)), I) := by
  obtain ⟨l0, l1, l2, l3⟩ := hN.l
  have h0 := lmb_r (v := v) 0; have h1 := lmb_r (v := v) 1; have h2 := lmb_r (v := v) 2; have h3 := lmb_r (v := v) 3
  obtain ⟨-, e⟩ := horner5 hN.1
  rw [en46]
  by_cases h : v % 5 = 0
  · rw [if_pos h]
    rw [h] at e
    clear h
    simp (disch := omega) only [r46_0, r46_1, r46_2, r46_3, r46_5, r46_7, r46_10, r46_11, r46_13, r46_14, r46_15, r46_17, r46_18, r46_19, r46_20, r46_21, r46_22, r46_23, r46_26, r46_29, r46_30, r46_31, r46_32, r46_35, r46_36, r46_39, r46_40, ↓if_pos, ↓if_neg, kill, l0, l1, l2, l3, lshl30, lor30, lrem_pos, iadd_eq, Int.reduceAdd, Int.reduceNeg, e]
  · rw [if_neg h]
    rw [← e] at h
    clear e
    simp (disch := first | omega | exact h) only [r46_0, r46_1, r46_2, r46_3, r46_5, r46_7, r46_10, r46_11, r46_13, r46_14, r46_15, r46_17, r46_18, r46_19, r46_20, r46_21, r46_22, r46_23, r46_26, r46_29, r46_30, r46_31, r46_32, r46_35, r46_36, r46_39, r46_40, ↓if_pos, ↓if_neg, kill, l0, l1, l2, l3, lshl30, lor30, lrem_pos, iadd_eq, Int.reduceAdd, Int.reduceNeg]
theorem x_div5_37 (hN : XN4 I 37 v) : ∃ K, call (d + 1) 47 [vR 36, vR 37, vI 5] I = some (none, K) ∧ XN4 K 37 (v / 5) ∧ FrN1 37 I K := by
  obtain ⟨l0, l1, l2, l3⟩ := hN.l
  have h0 := lmb_r (v := v) 0; have h1 := lmb_r (v := v) 1; have h2 := lmb_r (v := v) 2; have h3 := lmb_r (v := v) 3
  obtain ⟨r3, r2, r1, r0⟩ := parts5 hN.1
  have hv := hN.1
  refine ⟨mset (mset (mset (mset I 37 3 (lmb (v / 5) 3)) 37 2 (lmb (v / 5) 2)) 37 1 (lmb (v / 5) 1)) 37 0 (lmb (v / 5) 0), ?_, XN4.of ⟨by omega, by omega⟩ (by simp [mset_at]) (by simp [mset_at]) (by simp [mset_at]) (by simp [mset_at]), fun b i h => ?_⟩
  · rw [en47, ← r0, ← r1, ← r2, ← r3]
    clear r0 r1 r2 r3 hv
    simp (disch := omega) only [r47_0, r47_1, r47_2, r47_3, r47_5, r47_7, r47_10, r47_11, r47_13, r47_14, r47_15, r47_17, r47_18, r47_19, r47_21, r47_22, r47_24, r47_26, r47_27, r47_28, r47_29, r47_30, r47_32, r47_33, r47_34, r47_35, r47_36, r47_39, r47_42, ↓if_pos, ↓if_neg, kill, l0, l1, l2, l3, mset_at, lshl30, lor30, lrem_pos, ldiv_pos, iadd_eq, Int.reduceAdd, Int.reduceNeg]
  · rw [mset_at, if_neg (fun q => h q.1), mset_at, if_neg (fun q => h q.1), mset_at, if_neg (fun q => h q.1), mset_at, if_neg (fun q => h q.1)]
theorem x_isMul2_38 (hN : XN4 I 38 v) : call (d + 1) 46 [vR 36, vR 38, vI 2] I = some (some (vI (if v % 2 = 0 then 1 else 0)), I) := by
  obtain ⟨l0, l1, l2, l3⟩ := hN.l
  have h0 := lmb_r (v := v) 0; have h1 := lmb_r (v := v) 1; have h2 := lmb_r (v := v) 2; have h3 := lmb_r (v := v) 3
  obtain ⟨-, e⟩ := horner2 hN.1
  rw [en46a]
  by_cases h : v % 2 = 0
  · rw [if_pos h]
    rw [h] at e
    clear h
    simp (disch := omega) only [r46_0, r46_1, r46_2, r46_3, r46_5, r46_7, r46_10, r46_11, r46_13, r46_14a, r46_15a, r46_17a, r46_18, r46_19, r46_20, r46_21, r46_22, r46_23, r46_26, r46_29, r46_30, r46_31, r46_32, r46_35, r46_36, r46_39, r46_40, ↓if_pos, ↓if_neg, kill, l0, l1, l2, l3, lshl30, lor30, lrem_pos, iadd_eq, Int.reduceAdd, Int.reduceNeg, e]
  · rw [if_neg h]
    rw [← e] at h
    clear e
    simp (disch := first | omega | exact h) only [r46_0, r46_1, r46_2, r46_3, r46_5, r46_7, r46_10, r46_11, r46_13, r46_14a, r46_15a, r46_17a, r46_18, r46_19, r46_20, r46_21, r46_22, r46_23, r46_26, r46_29, r46_30, r46_31, r46_32, r46_35, r46_36, r46_39, r46_40, ↓if_pos, ↓if_neg, kill, l0, l1, l2, l3, lshl30, lor30, lrem_pos, iadd_eq, Int.reduceAdd, Int.reduceNeg]
theorem x_div2_38 (hN : XN4 I 38 v) : ∃ K, call (d + 1) 47 [vR 36, vR 38, vI 2] I = some (none, K) ∧ XN4 K 38 (v / 2) ∧ FrN1 38 I K := by
  obtain ⟨l0, l1, l2, l3⟩ := hN.l
  have h0 := lmb_r (v := v) 0; have h1 := lmb_r (v := v) 1; have h2 := lmb_r (v := v) 2; have h3 := lmb_r (v := v) 3
  obtain ⟨r3, r2, r1, r0⟩ := parts2 hN.1
  have hv := hN.1
  refine ⟨mset (mset (mset (mset I 38 3 (lmb (v / 2) 3)) 38 2 (lmb (v / 2) 2)) 38 1 (lmb (v / 2) 1)) 38 0 (lmb (v / 2) 0), ?_, XN4.of ⟨by omega, by omega⟩ (by simp [mset_at]) (by simp [mset_at]) (by simp [mset_at]) (by simp [mset_at]), fun b i h => ?_⟩
  · rw [en47a, ← r0, ← r1, ← r2, ← r3]
    clear r0 r1 r2 r3 hv
    simp (disch := omega) only [r47_0, r47_1, r47_2, r47_3, r47_5, r47_7, r47_10, r47_11, r47_13, r47_14a, r47_15a, r47_17a, r47_18, r47_19, r47_21a, r47_22a, r47_24a, r47_26a, r47_27a, r47_28a, r47_29a, r47_30, r47_32, r47_33, r47_34, r47_35, r47_36, r47_39, r47_42, ↓if_pos, ↓if_neg, kill, l0, l1, l2, l3, mset_at, lshl30, lor30, lrem_pos, ldiv_pos, iadd_eq, Int.reduceAdd, Int.reduceNeg]
  · rw [mset_at, if_neg (fun q => h q.1), mset_at, if_neg (fun q => h q.1), mset_at, if_neg (fun q => h q.1), mset_at, if_neg (fun q => h q.1)]
theorem x_isMul5_38 (hN : XN4 I 38 v) : call (d + 1) 46 [vR 36, vR 38, vI 5] I = some (some (vI (if v % 5 = 0 then 1 else 0)), I) := by
  obtain ⟨l0, l1, l2, l3⟩ := hN.l
  have h0 := lmb_r (v := v) 0; have h1 := lmb_r (v := v) 1; have h2 := lmb_r (v := v) 2; have h3 := lmb_r (v := v) 3
  obtain ⟨-, e⟩ := horner5 hN.1
  rw [en46a]
  by_cases h : v % 5 = 0
  · rw [if_pos h]
    rw [h] at e
    clear h
    simp (disch := omega) only [r46_0, r46_1, r46_2, r46_3, r46_5, r46_7, r46_10, r46_11, r46_13, r46_14a, r46_15a, r46_17a, r46_18, r46_19, r46_20, r46_21, r46_22, r46_23, r46_26, r46_29, r46_30, r46_31, r46_32, r46_35, r46_36, r46_39, r46_40, ↓if_pos, ↓if_neg, kill, l0, l1, l2, l3, lshl30, lor30, lrem_pos, iadd_eq, Int.reduceAdd, Int.reduceNeg, e]
  · rw [if_neg h]
    rw [← e] at h
    clear e
    simp (disch := first | omega | exact h) only [r46_0, r46_1, r46_2, r46_3, r46_5, r46_7, r46_10, r46_11, r46_13, r46_14a, r46_15a, r46_17a, r46_18, r46_19, r46_20, r46_21, r46_22, r46_23, r46_26, r46_29, r46_30, r46_31, r46_32, r46_35, r46_36, r46_39, r46_40, ↓if_pos, ↓if_neg, kill, l0, l1, l2, l3, lshl30, lor30, lrem_pos, iadd_eq, Int.reduceAdd, Int.reduceNeg]
theorem x_div5_38 (hN : XN4 I 38 v) : ∃ K, call (d + 1) 47 [vR 36, vR 38, vI 5] I = some (none, K) ∧ XN4 K 38 (v / 5) ∧ FrN1 38 I K := by
  obtain ⟨l0, l1, l2, l3⟩ := hN.l
  have h0 := lmb_r (v := v) 0; have h1 := lmb_r (v := v) 1; have h2 := lmb_r (v := v) 2; have h3 := lmb_r (v := v) 3
  obtain ⟨r3, r2, r1, r0⟩ := parts5 hN.1
  have hv := hN.1
  refine ⟨mset (mset (mset (mset I 38 3 (lmb (v / 5) 3)) 38 2 (lmb (v / 5) 2)) 38 1 (lmb (v / 5) 1)) 38 0 (lmb (v / 5) 0), ?_, XN4.of ⟨by omega, by omega⟩ (by simp [mset_at]) (by simp [mset_at]) (by simp [mset_at]) (by simp [mset_at]), fun b i h => ?_⟩
  · rw [en47a, ← r0, ← r1, ← r2, ← r3]
    clear r0 r1 r2 r3 hv
    simp (disch := omega) only [r47_0, r47_1, r47_2, r47_3, r47_5, r47_7, r47_10, r47_11, r47_13, r47_14a, r47_15a, r47_17a, r47_18, r47_19, r47_21a, r47_22a, r47_24a, r47_26a, r47_27a, r47_28a, r47_29a, r47_30, r47_32, r47_33, r47_34, r47_35, r47_36, r47_39, r47_42, ↓if_pos, ↓if_neg, kill, l0, l1, l2, l3, mset_at, lshl30, lor30, lrem_pos, ldiv_pos, iadd_eq, Int.reduceAdd, Int.reduceNeg]
  · rw [mset_at, if_neg (fun q => h q.1), mset_at, if_neg (fun q => h q.1), mset_at, if_neg (fun q => h q.1), mset_at, if_neg (fun q => h q.1)]
theorem x_size37 (hN : XN4 I 37 v) : call (d + 1) 48 [vR 36, vR 37] I = some (some (vI (lsz v)), I) := by
  obtain ⟨l0, l1, l2, l3⟩ := hN.l
  have hv := hN.1
  rw [lmb0] at l0; rw [lmb1] at l1; rw [lmb2] at l2; rw [lmb3] at l3
  rw [en48]
  unfold lsz
  by_cases c0 : v ≤ 0
  · rw [if_pos c0]
    have e0 : I 37 0 = 0 := by omega
    have e1 : I 37 1 = 0 := by omega
    have e2 : I 37 2 = 0 := by omega
    have e3 : I 37 3 = 0 := by omega
    clear l0 l1 l2 l3 hv c0
    simp (disch := omega) only [r48_0, r48_1, r48_2, r48_3, r48_6, r48_7, r48_8, r48_9, r48_10, r48_11, r48_12, r48_13, r48_16, r48_19, r48_22, r48_23, ↓if_pos, ↓if_neg, e0, e1, e2, e3, isub_eq, iadd_eq, Int.reduceSub, Int.reduceAdd, Int.reduceNeg]
  by_cases c1 : v < 1073741824
  · rw [if_neg c0, if_pos c1]
    have e0 : ¬ I 37 0 = 0 := by omega
    have e1 : I 37 1 = 0 := by omega
    have e2 : I 37 2 = 0 := by omega
    have e3 : I 37 3 = 0 := by omega
    clear l0 l1 l2 l3 hv c0 c1
    simp (disch := omega) only [r48_0, r48_1, r48_2, r48_3, r48_6, r48_7, r48_8, r48_9, r48_10, r48_11, r48_12, r48_13, r48_16, r48_19, r48_22, r48_23, ↓if_pos, ↓if_neg, e1, e2, e3, isub_eq, iadd_eq, Int.reduceSub, Int.reduceAdd, Int.reduceNeg]
  by_cases c2 : v < 1152921504606846976
  · rw [if_neg c0, if_neg c1, if_pos c2]
    have e1 : ¬ I 37 1 = 0 := by omega
    have e2 : I 37 2 = 0 := by omega
    have e3 : I 37 3 = 0 := by omega
    clear l0 l1 l2 l3 hv c0 c1 c2
    simp (disch := omega) only [r48_0, r48_1, r48_2, r48_3, r48_6, r48_7, r48_8, r48_9, r48_10, r48_11, r48_12, r48_13, r48_16, r48_19, r48_22, r48_23, ↓if_pos, ↓if_neg, e2, e3, isub_eq, iadd_eq, Int.reduceSub, Int.reduceAdd, Int.reduceNeg]
  by_cases c3 : v < 1237940039285380274899124224
  · rw [if_neg c0, if_neg c1, if_neg c2, if_pos c3]
    have e2 : ¬ I 37 2 = 0 := by omega
    have e3 : I 37 3 = 0 := by omega
    clear l0 l1 l2 l3 hv c0 c1 c2 c3
    simp (disch := omega) only [r48_0, r48_1, r48_2, r48_3, r48_6, r48_7, r48_8, r48_9, r48_10, r48_11, r48_12, r48_13, r48_16, r48_19, r48_22, r48_23, ↓if_pos, ↓if_neg, e3, isub_eq, iadd_eq, Int.reduceSub, Int.reduceAdd, Int.reduceNeg]
  · rw [if_neg c0, if_neg c1, if_neg c2, if_neg c3]
    have e3 : ¬ I 37 3 = 0 := by omega
    clear l0 l1 l2 l3 hv c0 c1 c2 c3
    simp (disch := omega) only [r48_0, r48_1, r48_2, r48_3, r48_6, r48_7, r48_8, r48_9, r48_10, r48_11, r48_12, r48_13, r48_16, r48_19, r48_22, r48_23, ↓if_pos, ↓if_neg, isub_eq, iadd_eq, Int.reduceSub, Int.reduceAdd, Int.reduceNeg]
theorem x_size38 (hN : XN4 I 38 v) : call (d + 1) 48 [vR 36, vR 38] I = some (some (vI (lsz v)), I) := by
  obtain ⟨l0, l1, l2, l3⟩ := hN.l
  have hv := hN.1
  rw [lmb0] at l0; rw [lmb1] at l1; rw [lmb2] at l2; rw [lmb3] at l3
  rw [en48a]
  unfold lsz
  by_cases c0 : v ≤ 0
  · rw [if_pos c0]
    have e0 : I 38 0 = 0 := by omega
    have e1 : I 38 1 = 0 := by omega
    have e2 : I 38 2 = 0 := by omega
    have e3 : I 38 3 = 0 := by omega
    clear l0 l1 l2 l3 hv c0
    simp (disch := omega) only [r48_0, r48_1, r48_2, r48_3, r48_6a, r48_7a, r48_8a, r48_9a, r48_10a, r48_11, r48_12, r48_13, r48_16, r48_19, r48_22, r48_23, ↓if_pos, ↓if_neg, e0, e1, e2, e3, isub_eq, iadd_eq, Int.reduceSub, Int.reduceAdd, Int.reduceNeg]
  by_cases c1 : v < 1073741824
  · rw [if_neg c0, if_pos c1]
    have e0 : ¬ I 38 0 = 0 := by omega
    have e1 : I 38 1 = 0 := by omega
    have e2 : I 38 2 = 0 := by omega
    have e3 : I 38 3 = 0 := by omega
    clear l0 l1 l2 l3 hv c0 c1
    simp (disch := omega) only [r48_0, r48_1, r48_2, r48_3, r48_6a, r48_7a, r48_8a, r48_9a, r48_10a, r48_11, r48_12, r48_13, r48_16, r48_19, r48_22, r48_23, ↓if_pos, ↓if_neg, e1, e2, e3, isub_eq, iadd_eq, Int.reduceSub, Int.reduceAdd, Int.reduceNeg]
  by_cases c2 : v < 1152921504606846976
  · rw [if_neg c0, if_neg c1, if_pos c2]
    have e1 : ¬ I 38 1 = 0 := by omega
    have e2 : I 38 2 = 0 := by omega
    have e3 : I 38 3 = 0 := by omega
    clear l0 l1 l2 l3 hv c0 c1 c2
    simp (disch := omega) only [r48_0, r48_1, r48_2, r48_3, r48_6a, r48_7a, r48_8a, r48_9a, r48_10a, r48_11, r48_12, r48_13, r48_16, r48_19, r48_22, r48_23, ↓if_pos, ↓if_neg, e2, e3, isub_eq, iadd_eq, Int.reduceSub, Int.reduceAdd, Int.reduceNeg]
  by_cases c3 : v < 1237940039285380274899124224
  · rw [if_neg c0, if_neg c1, if_neg c2, if_pos c3]
    have e2 : ¬ I 38 2 = 0 := by omega
    have e3 : I 38 3 = 0 := by omega
    clear l0 l1 l2 l3 hv c0 c1 c2 c3
    simp (disch := omega) only [r48_0, r48_1, r48_2, r48_3, r48_6a, r48_7a, r48_8a, r48_9a, r48_10a, r48_11, r48_12, r48_13, r48_16, r48_19, r48_22, r48_23, ↓if_pos, ↓if_neg, e3, isub_eq, iadd_eq, Int.reduceSub, Int.reduceAdd, Int.reduceNeg]
  · rw [if_neg c0, if_neg c1, if_neg c2, if_neg c3]
    have e3 : ¬ I 38 3 = 0 := by omega
    clear l0 l1 l2 l3 hv c0 c1 c2 c3
    simp (disch := omega) only [r48_0, r48_1, r48_2, r48_3, r48_6a, r48_7a, r48_8a, r48_9a, r48_10a, r48_11, r48_12, r48_13, r48_16, r48_19, r48_22, r48_23, ↓if_pos, ↓if_neg, isub_eq, iadd_eq, Int.reduceSub, Int.reduceAdd, Int.reduceNeg]
end
