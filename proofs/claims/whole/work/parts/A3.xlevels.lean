/-! The rule of the class: terms to values, by levels. -/
section
variable {e : Nat} {I J K : MM} {r : Int → Int} {p : PS} {c i k x a n o : Int} {V U : PS → PS}
theorem lpS_b {op : Int → Bool} (h : RB r) (hop : op (-1) = false) (hU : ∀ p, PB r p → PB r (U p)) : ∀ (f : Nat) (p : PS), PB r p → PB r (lpS r op U f p) := by
  intro f
  induction f with
  | zero => intro p hp; exact nA_b h hp
  | succ f ih =>
    intro p hp
    rw [lpS]; split
    · rename_i z
      exact ih _ (emt_b (hU _ (adv_b h hp (fun y => by rw [y, hop] at z; exact absurd z (by decide)))))
    · exact nA_b h hp
theorem lpB_b (h : RB r) (hc : 0 ≤ c) (hU : ∀ p, PB r p → PB r (U p)) : ∀ (f : Nat) (p : PS), PB r p → PB r (lpB r c U f p) := by
  intro f
  induction f with
  | zero => intro p hp; exact hp
  | succ f ih =>
    intro p hp
    rw [lpB]; split
    · exact ih _ (emt_b (hU _ (adv_b h hp (by omega))))
    · exact nA_b h hp
theorem x_lpTerm (h : RB r) (hU : XP r (e + 5) 68 [vI o] U) : ∀ (f : Nat) (i : Int) (p : PS) (J : MM), 0 ≤ i → i + f = 40 → PB r p → QX r J (nA r p) → ∃ K, runs (call (e + 5)) 67 12 [vR 21, vI o, vI (nC r p), vI i] [] J = some (none, K) ∧ PB r (lpS r isM U f p) ∧ QX r K (lpS r isM U f p) ∧ FrQ J K := by
  intro f
  induction f with
  | zero =>
    intro i p J i0 hi hp hQ
    refine ⟨J, ?_, nA_b h hp, hQ, FrQ.refl⟩
    clear hQ hU
    simp (disch := omega) only [r67_0, r67_1, r67_2, r67_5, r67_6, r67_9, r67_10, r67_11, r67_12, r67_13, r67_15, r67_18, r67_19, r67_21, r67_24, r67_25, r67_27, r67_30, r67_31, r67_32, r67_35, r67_38, r67_39, r67_40, r67_43, r67_44, r67_45, r67_46, r67_49, r67_50, r67_53, r67_54, r67_57, r67_60, ↓if_pos, ↓if_neg]
  | succ f ih =>
    intro i p J i0 hi hp hQ
    have hb := nA_b h hp
    rw [lpS]
    by_cases h1 : isM (nC r p) = true
    · rw [if_pos h1]
      have h2 : nC r p = 42 ∨ nC r p = 47 := of_decide_eq_true h1
      obtain ⟨J1, c1, q1, f1⟩ := x_takes (d := e + 5 - 3) (c := nC r p) h hb hQ (by omega)
      rw [nC_nA, if_pos rfl] at c1
      rw [tkP_y rfl] at q1
      have hb1 := adv_b h hp (by omega)
      obtain ⟨J2, c2, b2, q2, f2⟩ := hU _ J1 hb1 q1
      obtain ⟨J3, c3, q3, f3⟩ := x_emt (d := e + 5 - 1) (x := -(nC r p)) b2 q2
      have b3 : PB r (emt (-(nC r p)) (U (adv (nA r p)))) := emt_b b2
      obtain ⟨J4, c4, q4, f4⟩ := x_next (d := e + 5 - 2) h b3 q3
      obtain ⟨K, c5, b5, q5, f5⟩ := ih (i + 1) _ J4 (by omega) (by omega) b3 q4
      refine ⟨K, ?_, b5, q5, (((f1.trans f2).trans f3).trans f4).trans f5⟩
      have en : ineg (nC r p) = -(nC r p) := ineg_eq (by omega)
      rw [← c5, r67_12]
      simp only [Nat.reduceSubDiff, Nat.add_sub_cancel, Nat.reduceAdd, Nat.add_assoc] at c1 c3 c4
      clear hQ q1 q2 q3 q4 q5 ih hU c5
      rcases h2 with h2 | h2
      · simp (disch := omega) only [r67_0, r67_1, r67_2, r67_5, r67_6, r67_9, r67_10, r67_11, r67_13, r67_15, r67_18, r67_19, r67_21, r67_24, r67_25, r67_27, r67_30, r67_31, r67_32, r67_35, r67_38, r67_39, r67_40, r67_43, r67_44, r67_45, r67_46, r67_49, r67_50, r67_53, r67_54, r67_57, r67_60, ↓if_pos, ↓if_neg, c1, c2, en, c3, c4, iadd_eq, Option.bind_some, pushR_s, pushR_n]
      · simp (disch := omega) only [r67_0, r67_1, r67_2, r67_5, r67_6, r67_9, r67_10, r67_11, r67_13, r67_15, r67_18, r67_19, r67_21, r67_24, r67_25, r67_27, r67_30, r67_31, r67_32, r67_35, r67_38, r67_39, r67_40, r67_43, r67_44, r67_45, r67_46, r67_49, r67_50, r67_53, r67_54, r67_57, r67_60, ↓if_pos, ↓if_neg, c1, c2, en, c3, c4, iadd_eq, Option.bind_some, pushR_s, pushR_n]
    · rw [if_neg h1]
      have h2 : ¬ (nC r p = 42 ∨ nC r p = 47) := fun z => h1 (decide_eq_true z)
      refine ⟨J, ?_, hb, hQ, FrQ.refl⟩
      clear hQ hU h1
      simp (disch := omega) only [r67_0, r67_1, r67_2, r67_5, r67_6, r67_9, r67_10, r67_11, r67_12, r67_13, r67_15, r67_18, r67_19, r67_21, r67_24, r67_25, r67_27, r67_30, r67_31, r67_32, r67_35, r67_38, r67_39, r67_40, r67_43, r67_44, r67_45, r67_46, r67_49, r67_50, r67_53, r67_54, r67_57, r67_60, ↓if_pos, ↓if_neg]
theorem x_pTerm (h : RB r) (hU : XP r (e + 5) 68 [vI o] (pUnit r o V)) : XP r (e + 6) 67 [vI o] (pTerm r o V) := by
  intro p I hp hQ
  obtain ⟨J1, c1, b1, q1, f1⟩ := hU p I hp hQ
  obtain ⟨J2, c2, q2, f2⟩ := x_next (d := e + 5 - 2) h b1 q1
  obtain ⟨K, c3, b3, q3, f3⟩ := x_lpTerm (e := e) h hU 40 0 (pUnit r o V p) J2 (by omega) (by omega) b1 q2
  refine ⟨K, ?_, b3, q3, (f1.trans f2).trans f3⟩
  rw [← c3, en67]
  simp only [Nat.reduceSubDiff, Nat.add_sub_cancel, Nat.reduceAdd, Nat.add_assoc] at c2
  clear hQ q1 q2 q3 hU c3
  simp (disch := omega) only [r67_0, r67_1, r67_2, r67_5, r67_6, r67_9, r67_10, r67_11, r67_13, r67_15, r67_18, r67_19, r67_21, r67_24, r67_25, r67_27, r67_30, r67_31, r67_32, r67_35, r67_38, r67_39, r67_40, r67_43, r67_44, r67_45, r67_46, r67_49, r67_50, r67_53, r67_54, r67_57, r67_60, c1, c2, Option.bind_some, pushR_s, pushR_n]
theorem x_lpSum (h : RB r) (hU : XP r (e + 6) 67 [vI o] U) : ∀ (f : Nat) (i : Int) (p : PS) (J : MM), 0 ≤ i → i + f = 40 → PB r p → QX r J (nA r p) → ∃ K, runs (call (e + 6)) 66 12 [vR 21, vI o, vI (nC r p), vI i] [] J = some (none, K) ∧ PB r (lpS r isA U f p) ∧ QX r K (lpS r isA U f p) ∧ FrQ J K := by
  intro f
  induction f with
  | zero =>
    intro i p J i0 hi hp hQ
    refine ⟨J, ?_, nA_b h hp, hQ, FrQ.refl⟩
    clear hQ hU
    simp (disch := omega) only [r66_0, r66_1, r66_2, r66_5, r66_6, r66_9, r66_10, r66_11, r66_12, r66_13, r66_15, r66_18, r66_19, r66_21, r66_24, r66_25, r66_27, r66_30, r66_31, r66_32, r66_35, r66_38, r66_39, r66_40, r66_43, r66_44, r66_45, r66_46, r66_49, r66_50, r66_53, r66_54, r66_57, r66_60, ↓if_pos, ↓if_neg]
  | succ f ih =>
    intro i p J i0 hi hp hQ
    have hb := nA_b h hp
    rw [lpS]
    by_cases h1 : isA (nC r p) = true
    · rw [if_pos h1]
      have h2 : nC r p = 43 ∨ nC r p = 45 := of_decide_eq_true h1
      obtain ⟨J1, c1, q1, f1⟩ := x_takes (d := e + 6 - 3) (c := nC r p) h hb hQ (by omega)
      rw [nC_nA, if_pos rfl] at c1
      rw [tkP_y rfl] at q1
      have hb1 := adv_b h hp (by omega)
      obtain ⟨J2, c2, b2, q2, f2⟩ := hU _ J1 hb1 q1
      obtain ⟨J3, c3, q3, f3⟩ := x_emt (d := e + 6 - 1) (x := -(nC r p)) b2 q2
      have b3 : PB r (emt (-(nC r p)) (U (adv (nA r p)))) := emt_b b2
      obtain ⟨J4, c4, q4, f4⟩ := x_next (d := e + 6 - 2) h b3 q3
      obtain ⟨K, c5, b5, q5, f5⟩ := ih (i + 1) _ J4 (by omega) (by omega) b3 q4
      refine ⟨K, ?_, b5, q5, (((f1.trans f2).trans f3).trans f4).trans f5⟩
      have en : ineg (nC r p) = -(nC r p) := ineg_eq (by omega)
      rw [← c5, r66_12]
      simp only [Nat.reduceSubDiff, Nat.add_sub_cancel, Nat.reduceAdd, Nat.add_assoc] at c1 c3 c4
      clear hQ q1 q2 q3 q4 q5 ih hU c5
      rcases h2 with h2 | h2
      · simp (disch := omega) only [r66_0, r66_1, r66_2, r66_5, r66_6, r66_9, r66_10, r66_11, r66_13, r66_15, r66_18, r66_19, r66_21, r66_24, r66_25, r66_27, r66_30, r66_31, r66_32, r66_35, r66_38, r66_39, r66_40, r66_43, r66_44, r66_45, r66_46, r66_49, r66_50, r66_53, r66_54, r66_57, r66_60, ↓if_pos, ↓if_neg, c1, c2, en, c3, c4, iadd_eq, Option.bind_some, pushR_s, pushR_n]
      · simp (disch := omega) only [r66_0, r66_1, r66_2, r66_5, r66_6, r66_9, r66_10, r66_11, r66_13, r66_15, r66_18, r66_19, r66_21, r66_24, r66_25, r66_27, r66_30, r66_31, r66_32, r66_35, r66_38, r66_39, r66_40, r66_43, r66_44, r66_45, r66_46, r66_49, r66_50, r66_53, r66_54, r66_57, r66_60, ↓if_pos, ↓if_neg, c1, c2, en, c3, c4, iadd_eq, Option.bind_some, pushR_s, pushR_n]
    · rw [if_neg h1]
      have h2 : ¬ (nC r p = 43 ∨ nC r p = 45) := fun z => h1 (decide_eq_true z)
      refine ⟨J, ?_, hb, hQ, FrQ.refl⟩
      clear hQ hU h1
      simp (disch := omega) only [r66_0, r66_1, r66_2, r66_5, r66_6, r66_9, r66_10, r66_11, r66_12, r66_13, r66_15, r66_18, r66_19, r66_21, r66_24, r66_25, r66_27, r66_30, r66_31, r66_32, r66_35, r66_38, r66_39, r66_40, r66_43, r66_44, r66_45, r66_46, r66_49, r66_50, r66_53, r66_54, r66_57, r66_60, ↓if_pos, ↓if_neg]
theorem x_pSum (h : RB r) (hU : XP r (e + 6) 67 [vI o] (pTerm r o V)) : XP r (e + 7) 66 [vI o] (pSum r o V) := by
  intro p I hp hQ
  obtain ⟨J1, c1, b1, q1, f1⟩ := hU p I hp hQ
  obtain ⟨J2, c2, q2, f2⟩ := x_next (d := e + 6 - 2) h b1 q1
  obtain ⟨K, c3, b3, q3, f3⟩ := x_lpSum (e := e) h hU 40 0 (pTerm r o V p) J2 (by omega) (by omega) b1 q2
  refine ⟨K, ?_, b3, q3, (f1.trans f2).trans f3⟩
  rw [← c3, en66]
  simp only [Nat.reduceSubDiff, Nat.add_sub_cancel, Nat.reduceAdd, Nat.add_assoc] at c2
  clear hQ q1 q2 q3 hU c3
  simp (disch := omega) only [r66_0, r66_1, r66_2, r66_5, r66_6, r66_9, r66_10, r66_11, r66_13, r66_15, r66_18, r66_19, r66_21, r66_24, r66_25, r66_27, r66_30, r66_31, r66_32, r66_35, r66_38, r66_39, r66_40, r66_43, r66_44, r66_45, r66_46, r66_49, r66_50, r66_53, r66_54, r66_57, r66_60, c1, c2, Option.bind_some, pushR_s, pushR_n]
theorem x_held (h : RB r) (hU : XP r (e + 7) 66 [vI o] (pSum r o V)) : XP r (e + 8) 65 [vI o] (pHeld r o V) := by
  intro p I hp hQ
  obtain ⟨J1, c1, b1, q1, f1⟩ := hU p I hp hQ
  unfold pHeld
  generalize pSum r o V p = w at *
  obtain ⟨J2, c2, q2, f2⟩ := x_next (d := e + 5) h b1 q1
  have hb := nA_b h b1
  by_cases h1 : isH (nC r w) = true
  · rw [if_pos h1]
    have h2 : nC r w = 60 ∨ nC r w = 62 ∨ nC r w = 61 := of_decide_eq_true h1
    obtain ⟨J3, c3, q3, f3⟩ := x_takes (d := e + 4) (c := nC r w) h hb q2 (by omega)
    rw [nC_nA, if_pos rfl] at c3
    rw [tkP_y rfl] at q3
    obtain ⟨J4, c4, b4, q4, f4⟩ := hU _ J3 (adv_b h b1 (by omega)) q3
    obtain ⟨J5, c5, q5, f5⟩ := x_emt (d := e + 6) (x := -(nC r w)) b4 q4
    refine ⟨J5, ?_, emt_b b4, q5, (((f1.trans f2).trans f3).trans f4).trans f5⟩
    have en : ineg (nC r w) = -(nC r w) := ineg_eq (by omega)
    rw [en65]
    clear hQ q1 q2 q3 q4 q5 hU
    rcases h2 with h2 | h2 | h2
    · simp (disch := omega) only [r65_0, r65_1, r65_2, r65_5, r65_6, r65_9, r65_10, r65_11, r65_13, r65_16, r65_17, r65_19, r65_22, r65_23, r65_25, r65_28, r65_29, r65_30, r65_33, r65_34, r65_35, r65_36, r65_39, r65_40, r65_41, r65_42, r65_45, ↓if_pos, ↓if_neg, c1, c2, en, c3, c4, c5, Option.bind_some, pushR_s, pushR_n]
    · simp (disch := omega) only [r65_0, r65_1, r65_2, r65_5, r65_6, r65_9, r65_10, r65_11, r65_13, r65_16, r65_17, r65_19, r65_22, r65_23, r65_25, r65_28, r65_29, r65_30, r65_33, r65_34, r65_35, r65_36, r65_39, r65_40, r65_41, r65_42, r65_45, ↓if_pos, ↓if_neg, c1, c2, en, c3, c4, c5, Option.bind_some, pushR_s, pushR_n]
    · simp (disch := omega) only [r65_0, r65_1, r65_2, r65_5, r65_6, r65_9, r65_10, r65_11, r65_13, r65_16, r65_17, r65_19, r65_22, r65_23, r65_25, r65_28, r65_29, r65_30, r65_33, r65_34, r65_35, r65_36, r65_39, r65_40, r65_41, r65_42, r65_45, ↓if_pos, ↓if_neg, c1, c2, en, c3, c4, c5, Option.bind_some, pushR_s, pushR_n]
  · rw [if_neg h1]
    have h2 : ¬ (nC r w = 60 ∨ nC r w = 62 ∨ nC r w = 61) := fun z => h1 (decide_eq_true z)
    refine ⟨J2, ?_, hb, q2, f1.trans f2⟩
    rw [en65]
    clear hQ hU h1 q1 q2
    simp (disch := omega) only [r65_0, r65_1, r65_2, r65_5, r65_6, r65_9, r65_10, r65_11, r65_13, r65_16, r65_17, r65_19, r65_22, r65_23, r65_25, r65_28, r65_29, r65_30, r65_33, r65_34, r65_35, r65_36, r65_39, r65_40, r65_41, r65_42, r65_45, ↓if_pos, ↓if_neg, c1, c2, Option.bind_some, pushR_s, pushR_n]
theorem x_lpBoth (h : RB r) (hU : XP r (e + 8) 65 [vI o] U) : ∀ (f : Nat) (i : Int) (p : PS) (J : MM), 0 ≤ i → i + f = 40 → PB r p → QX r J p → ∃ K, runs (call (e + 8)) 64 7 [vR 21, vI o, vI i] [] J = some (none, K) ∧ PB r (lpB r 38 U f p) ∧ QX r K (lpB r 38 U f p) ∧ FrQ J K := by
  intro f
  induction f with
  | zero =>
    intro i p J i0 hi hp hQ
    refine ⟨J, ?_, hp, hQ, FrQ.refl⟩
    clear hQ hU
    simp (disch := omega) only [r64_0, r64_1, r64_2, r64_5, r64_6, r64_7, r64_8, r64_10, r64_13, r64_14, r64_16, r64_19, r64_22, r64_23, r64_24, r64_27, r64_28, r64_30, r64_33, r64_36, r64_39, ↓if_pos, ↓if_neg]
  | succ f ih =>
    intro i p J i0 hi hp hQ
    have hb := nA_b h hp
    rw [lpB]
    obtain ⟨J1, c1, q1, f1⟩ := x_takes (d := e + 8 - 3) (c := 38) h hp hQ (by omega)
    simp only [Nat.reduceSubDiff, Nat.add_sub_cancel, Nat.reduceAdd, Nat.add_assoc] at c1
    by_cases h1 : nC r p = 38
    · rw [if_pos h1] at c1 ⊢
      rw [tkP_y' h1] at q1
      have hb1 := adv_b h hp (by omega)
      obtain ⟨J2, c2, b2, q2, f2⟩ := hU _ J1 hb1 q1
      obtain ⟨J3, c3, q3, f3⟩ := x_emt (d := e + 8 - 1) (x := -38) b2 q2
      simp only [Nat.reduceSubDiff, Nat.add_sub_cancel, Nat.reduceAdd, Nat.add_assoc] at c3
      obtain ⟨K, c5, b5, q5, f5⟩ := ih (i + 1) _ J3 (by omega) (by omega) (emt_b b2) q3
      refine ⟨K, ?_, b5, q5, ((f1.trans f2).trans f3).trans f5⟩
      rw [← c5, r64_7]
      clear hQ q1 q2 q3 q5 ih hU c5
      simp (disch := omega) only [r64_0, r64_1, r64_2, r64_5, r64_6, r64_8, r64_10, r64_13, r64_14, r64_16, r64_19, r64_22, r64_23, r64_24, r64_27, r64_28, r64_30, r64_33, r64_36, r64_39, ↓if_pos, ↓if_neg, c1, c2, c3, iadd_eq, Option.bind_some, pushR_s, pushR_n]
    · rw [if_neg h1] at c1 ⊢
      rw [tkP_n' h1] at q1
      refine ⟨J1, ?_, hb, q1, f1⟩
      clear hQ hU q1 ih
      simp (disch := omega) only [r64_0, r64_1, r64_2, r64_5, r64_6, r64_7, r64_8, r64_10, r64_13, r64_14, r64_16, r64_19, r64_22, r64_23, r64_24, r64_27, r64_28, r64_30, r64_33, r64_36, r64_39, ↓if_pos, ↓if_neg, c1, Option.bind_some, pushR_s, pushR_n]
theorem x_lpValue (h : RB r) (hU : XP r (e + 9) 64 [vI o] U) : ∀ (f : Nat) (i : Int) (p : PS) (J : MM), 0 ≤ i → i + f = 40 → PB r p → QX r J p → ∃ K, runs (call (e + 9)) 63 7 [vR 21, vI o, vI i] [] J = some (none, K) ∧ PB r (lpB r 124 U f p) ∧ QX r K (lpB r 124 U f p) ∧ FrQ J K := by
  intro f
  induction f with
  | zero =>
    intro i p J i0 hi hp hQ
    refine ⟨J, ?_, hp, hQ, FrQ.refl⟩
    clear hQ hU
    simp (disch := omega) only [r63_0, r63_1, r63_2, r63_5, r63_6, r63_7, r63_8, r63_10, r63_13, r63_14, r63_16, r63_19, r63_22, r63_23, r63_24, r63_27, r63_28, r63_30, r63_33, r63_36, r63_39, ↓if_pos, ↓if_neg]
  | succ f ih =>
    intro i p J i0 hi hp hQ
    have hb := nA_b h hp
    rw [lpB]
    obtain ⟨J1, c1, q1, f1⟩ := x_takes (d := e + 9 - 3) (c := 124) h hp hQ (by omega)
    simp only [Nat.reduceSubDiff, Nat.add_sub_cancel, Nat.reduceAdd, Nat.add_assoc] at c1
    by_cases h1 : nC r p = 124
    · rw [if_pos h1] at c1 ⊢
      rw [tkP_y' h1] at q1
      have hb1 := adv_b h hp (by omega)
      obtain ⟨J2, c2, b2, q2, f2⟩ := hU _ J1 hb1 q1
      obtain ⟨J3, c3, q3, f3⟩ := x_emt (d := e + 9 - 1) (x := -124) b2 q2
      simp only [Nat.reduceSubDiff, Nat.add_sub_cancel, Nat.reduceAdd, Nat.add_assoc] at c3
      obtain ⟨K, c5, b5, q5, f5⟩ := ih (i + 1) _ J3 (by omega) (by omega) (emt_b b2) q3
      refine ⟨K, ?_, b5, q5, ((f1.trans f2).trans f3).trans f5⟩
      rw [← c5, r63_7]
      clear hQ q1 q2 q3 q5 ih hU c5
      simp (disch := omega) only [r63_0, r63_1, r63_2, r63_5, r63_6, r63_8, r63_10, r63_13, r63_14, r63_16, r63_19, r63_22, r63_23, r63_24, r63_27, r63_28, r63_30, r63_33, r63_36, r63_39, ↓if_pos, ↓if_neg, c1, c2, c3, iadd_eq, Option.bind_some, pushR_s, pushR_n]
    · rw [if_neg h1] at c1 ⊢
      rw [tkP_n' h1] at q1
      refine ⟨J1, ?_, hb, q1, f1⟩
      clear hQ hU q1 ih
      simp (disch := omega) only [r63_0, r63_1, r63_2, r63_5, r63_6, r63_7, r63_8, r63_10, r63_13, r63_14, r63_16, r63_19, r63_22, r63_23, r63_24, r63_27, r63_28, r63_30, r63_33, r63_36, r63_39, ↓if_pos, ↓if_neg, c1, Option.bind_some, pushR_s, pushR_n]
theorem x_both (h : RB r) (hU : XP r (e + 8) 65 [vI o] (pHeld r o V)) : XP r (e + 9) 64 [vI o] (pBoth r o V) := by
  intro p I hp hQ
  obtain ⟨J1, c1, b1, q1, f1⟩ := hU p I hp hQ
  obtain ⟨K, c3, b3, q3, f3⟩ := x_lpBoth (e := e) h hU 40 0 _ J1 (by omega) (by omega) b1 q1
  refine ⟨K, ?_, b3, q3, f1.trans f3⟩
  rw [← c3, en64]
  clear hQ q1 q3 hU c3
  simp (disch := omega) only [r64_0, r64_1, r64_2, r64_5, r64_6, r64_8, r64_10, r64_13, r64_14, r64_16, r64_19, r64_22, r64_23, r64_24, r64_27, r64_28, r64_30, r64_33, r64_36, r64_39, c1, Option.bind_some, pushR_s, pushR_n]
theorem x_value (h : RB r) (hU : XP r (e + 9) 64 [vI o] (pBoth r o V)) : XP r (e + 10) 63 [vI o] (pVal r o V) := by
  intro p I hp hQ
  obtain ⟨J1, c1, b1, q1, f1⟩ := hU p I hp hQ
  obtain ⟨K, c3, b3, q3, f3⟩ := x_lpValue (e := e) h hU 40 0 _ J1 (by omega) (by omega) b1 q1
  refine ⟨K, ?_, b3, q3, f1.trans f3⟩
  rw [← c3, en63]
  clear hQ q1 q3 hU c3
  simp (disch := omega) only [r63_0, r63_1, r63_2, r63_5, r63_6, r63_8, r63_10, r63_13, r63_14, r63_16, r63_19, r63_22, r63_23, r63_24, r63_27, r63_28, r63_30, r63_33, r63_36, r63_39, c1, Option.bind_some, pushR_s, pushR_n]
/-- one level out of the level behind a parenthesis -/
theorem x_level (h : RB r) (ho : 0 ≤ o ∧ o ≤ 8) (hV : o < 8 → XP r (e + 3) 63 [vI (o + 1)] V) : XP r (e + 10) 63 [vI o] (pVal r o V) :=
  x_value h (x_both h (x_held h (x_pSum h (x_pTerm h (x_unit h (x_core h ho hV))))))
theorem x_pV (h : RB r) : ∀ n : Nat, n ≤ 8 → XP r (e + 10 + 7 * n) 63 [vI (8 - (n : Int))] (pV r n)
  | 0, _ => x_level (e := e) h (by omega) (fun z => absurd z (by omega))
  | n + 1, hn => by
    have ih := x_pV h n (by omega)
    have e1 : e + 10 + 7 * n = (e + 7 * n + 7) + 3 := by omega
    have e2 : e + 10 + 7 * (n + 1) = (e + 7 * n + 7) + 10 := by omega
    rw [e2]
    rw [e1] at ih
    refine x_level (e := e + 7 * n + 7) h (by omega) (fun _ => ?_)
    rw [show (8 : Int) - ((n + 1 : Nat) : Int) + 1 = 8 - (n : Int) by omega]
    exact ih
end
