/-! The fraction of the class: numbers in four limbs. -/
def XN4 (J : MM) (a : Nat) (v : Int) : Prop := (0 ≤ v ∧ v < 1329227995784915872903807060280344576) ∧ ∀ i, 0 ≤ i → i < 4 → J a i = lmb v i
section
variable {d : Nat} {I J K : MM} {v f p u : Int}
theorem lmb0 : lmb v 0 = v % 1073741824 := by unfold lmb; rw [show (1073741824 : Int) ^ (0 : Int).toNat = 1 by decide, Int.ediv_one]
theorem lmb1 : lmb v 1 = v / 1073741824 % 1073741824 := by unfold lmb; rw [show (1073741824 : Int) ^ (1 : Int).toNat = 1073741824 by decide]
theorem lmb2 : lmb v 2 = v / 1152921504606846976 % 1073741824 := by unfold lmb; rw [show (1073741824 : Int) ^ (2 : Int).toNat = 1152921504606846976 by decide]
theorem lmb3 : lmb v 3 = v / 1237940039285380274899124224 % 1073741824 := by unfold lmb; rw [show (1073741824 : Int) ^ (3 : Int).toNat = 1237940039285380274899124224 by decide]
theorem lmb_r (i : Int) : 0 ≤ lmb v i ∧ lmb v i < 1073741824 := by unfold lmb; omega
theorem XN4.l {a : Nat} (h : XN4 J a v) : J a 0 = lmb v 0 ∧ J a 1 = lmb v 1 ∧ J a 2 = lmb v 2 ∧ J a 3 = lmb v 3 := ⟨h.2 0 (by omega) (by omega), h.2 1 (by omega) (by omega), h.2 2 (by omega) (by omega), h.2 3 (by omega) (by omega)⟩
theorem XN4.of {a : Nat} (hv : 0 ≤ v ∧ v < 1329227995784915872903807060280344576) (h0 : J a 0 = lmb v 0) (h1 : J a 1 = lmb v 1) (h2 : J a 2 = lmb v 2) (h3 : J a 3 = lmb v 3) : XN4 J a v := ⟨hv, fun i i0 i1 => by
  have : i = 0 ∨ i = 1 ∨ i = 2 ∨ i = 3 := by omega
  rcases this with rfl | rfl | rfl | rfl <;> assumption⟩
/-- the value of four limbs -/
theorem val4 (hv : 0 ≤ v ∧ v < 1329227995784915872903807060280344576) : v = lmb v 0 + lmb v 1 * 1073741824 + lmb v 2 * 1152921504606846976 + lmb v 3 * 1237940039285380274899124224 := by
  rw [lmb0, lmb1, lmb2, lmb3]; omega
theorem XN4.cong {a : Nat} (h : XN4 I a v) (e : ∀ i, J a i = I a i) : XN4 J a v := ⟨h.1, fun i i0 i1 => (e i).trans (h.2 i i0 i1)⟩
def FrN1 (a : Nat) (I J : MM) : Prop := ∀ b i, b ≠ a → J b i = I b i
theorem x_setTo37 (hv : 0 ≤ v ∧ v < 1073741824) : ∃ K, call (d + 1) 40 [vR 36, vR 37, vL v] I = some (none, K) ∧ XN4 K 37 v ∧ FrN1 37 I K := by
  refine ⟨mset (mset (mset (mset I 37 0 v) 37 1 0) 37 2 0) 37 3 0, ?_, XN4.of ⟨hv.1, by omega⟩ ?_ ?_ ?_ ?_, fun b i h => ?_⟩
  · rw [en40]
    simp (disch := omega) only [r40_0, r40_1, r40_2, r40_3, r40_4, r40_5, r40_7, r40_9, r40_10, r40_13, r40_14, r40_16, r40_17, r40_18, r40_21, r40_24, ↓if_pos, ↓if_neg, kill, iadd_eq, Int.reduceAdd]
  · simp only [mset_at]; rw [lmb0]; simp; omega
  · simp only [mset_at]; rw [lmb1]; simp; omega
  · simp only [mset_at]; rw [lmb2]; simp; omega
  · simp only [mset_at]; rw [lmb3]; simp; omega
  · rw [mset_at, if_neg (fun q => h q.1), mset_at, if_neg (fun q => h q.1), mset_at, if_neg (fun q => h q.1), mset_at, if_neg (fun q => h q.1)]
theorem x_setTo38 (hv : 0 ≤ v ∧ v < 1073741824) : ∃ K, call (d + 1) 40 [vR 36, vR 38, vL v] I = some (none, K) ∧ XN4 K 38 v ∧ FrN1 38 I K := by
  refine ⟨mset (mset (mset (mset I 38 0 v) 38 1 0) 38 2 0) 38 3 0, ?_, XN4.of ⟨hv.1, by omega⟩ ?_ ?_ ?_ ?_, fun b i h => ?_⟩
  · rw [en40a]
    simp (disch := omega) only [r40_0a, r40_1a, r40_2a, r40_3a, r40_4, r40_5, r40_7, r40_9, r40_10, r40_13a, r40_14a, r40_16a, r40_17a, r40_18, r40_21, r40_24, ↓if_pos, ↓if_neg, kill, iadd_eq, Int.reduceAdd]
  · simp only [mset_at]; rw [lmb0]; simp; omega
  · simp only [mset_at]; rw [lmb1]; simp; omega
  · simp only [mset_at]; rw [lmb2]; simp; omega
  · simp only [mset_at]; rw [lmb3]; simp; omega
  · rw [mset_at, if_neg (fun q => h q.1), mset_at, if_neg (fun q => h q.1), mset_at, if_neg (fun q => h q.1), mset_at, if_neg (fun q => h q.1)]
theorem x_setTo39 (hv : 0 ≤ v ∧ v < 1073741824) : ∃ K, call (d + 1) 40 [vR 36, vR 39, vL v] I = some (none, K) ∧ XN4 K 39 v ∧ FrN1 39 I K := by
  refine ⟨mset (mset (mset (mset I 39 0 v) 39 1 0) 39 2 0) 39 3 0, ?_, XN4.of ⟨hv.1, by omega⟩ ?_ ?_ ?_ ?_, fun b i h => ?_⟩
  · rw [en40b]
    simp (disch := omega) only [r40_0b, r40_1b, r40_2b, r40_3b, r40_4, r40_5, r40_7, r40_9, r40_10, r40_13b, r40_14b, r40_16b, r40_17b, r40_18, r40_21, r40_24, ↓if_pos, ↓if_neg, kill, iadd_eq, Int.reduceAdd]
  · simp only [mset_at]; rw [lmb0]; simp; omega
  · simp only [mset_at]; rw [lmb1]; simp; omega
  · simp only [mset_at]; rw [lmb2]; simp; omega
  · simp only [mset_at]; rw [lmb3]; simp; omega
  · rw [mset_at, if_neg (fun q => h q.1), mset_at, if_neg (fun q => h q.1), mset_at, if_neg (fun q => h q.1), mset_at, if_neg (fun q => h q.1)]
/-- four products carried on -/
theorem carry4 {p0 p1 p2 p3 w : Int} (h0 : 0 ≤ p0 ∧ p0 ≤ 10737418240) (h1 : 0 ≤ p1 ∧ p1 ≤ 10737418240) (h2 : 0 ≤ p2 ∧ p2 ≤ 10737418240) (h3 : 0 ≤ p3 ∧ p3 ≤ 10737418240) (hw : w = p0 + p1 * 1073741824 + p2 * 1152921504606846976 + p3 * 1237940039285380274899124224) (hb : w < 1329227995784915872903807060280344576) : p0 % 1073741824 = lmb w 0 ∧ (p0 / 1073741824 + p1) % 1073741824 = lmb w 1 ∧ ((p0 / 1073741824 + p1) / 1073741824 + p2) % 1073741824 = lmb w 2 ∧ (((p0 / 1073741824 + p1) / 1073741824 + p2) / 1073741824 + p3) % 1073741824 = lmb w 3 := by
  rw [lmb0, lmb1, lmb2, lmb3]
  omega
theorem x_mult38 (hN : XN4 I 38 v) (hf : 0 ≤ f ∧ f ≤ 10) (hb : v * f < 1329227995784915872903807060280344576) : ∃ K, call (d + 1) 41 [vR 36, vR 38, vL f] I = some (none, K) ∧ XN4 K 38 (v * f) ∧ FrN1 38 I K := by
  obtain ⟨l0, l1, l2, l3⟩ := hN.l
  have hp : ∀ i, 0 ≤ lmb v i * f ∧ lmb v i * f ≤ 10737418240 := fun i => by
    have h := lmb_r (v := v) i
    exact ⟨Int.mul_nonneg h.1 hf.1, by have := Int.mul_le_mul (show lmb v i ≤ 1073741824 by omega) hf.2 hf.1 (by decide); omega⟩
  have hp0 := hp 0; have hp1 := hp 1; have hp2 := hp 2; have hp3 := hp 3
  have hw : v * f = lmb v 0 * f + lmb v 1 * f * 1073741824 + lmb v 2 * f * 1152921504606846976 + lmb v 3 * f * 1237940039285380274899124224 := by
    have e := congrArg (· * f) (val4 hN.1)
    simp only [Int.add_mul] at e
    rw [Int.mul_right_comm (lmb v 1), Int.mul_right_comm (lmb v 2), Int.mul_right_comm (lmb v 3)] at e
    exact e
  obtain ⟨r0, r1, r2, r3⟩ := carry4 hp0 hp1 hp2 hp3 hw hb
  have hv0 : 0 ≤ v * f := Int.mul_nonneg hN.1.1 hf.1
  refine ⟨mset (mset (mset (mset I 38 0 (lmb (v * f) 0)) 38 1 (lmb (v * f) 1)) 38 2 (lmb (v * f) 2)) 38 3 (lmb (v * f) 3), ?_, XN4.of ⟨hv0, hb⟩ (by simp [mset_at]) (by simp [mset_at]) (by simp [mset_at]) (by simp [mset_at]), fun b i h => ?_⟩
  · rw [en41, ← r0, ← r1, ← r2, ← r3]
    clear hw r0 r1 r2 r3 hb hv0 hp
    simp (disch := omega) only [r41_0, r41_1, r41_3, r41_4, r41_6, r41_8, r41_9, r41_12, r41_14, r41_15, r41_17, r41_18, r41_19, r41_20, r41_21, r41_23, r41_24, r41_26, r41_28, r41_31, r41_32, r41_33, r41_35, r41_37, r41_38, r41_40, r41_43, r41_46, ↓if_pos, ↓if_neg, kill, l0, l1, l2, l3, mset_at, lmul_eq, ladd_eq, land30, lshr30, iadd_eq, Int.reduceAdd, Int.zero_add]
  · rw [mset_at, if_neg (fun q => h q.1), mset_at, if_neg (fun q => h q.1), mset_at, if_neg (fun q => h q.1), mset_at, if_neg (fun q => h q.1)]
theorem x_mult39 (hN : XN4 I 39 v) (hf : 0 ≤ f ∧ f ≤ 10) (hb : v * f < 1329227995784915872903807060280344576) : ∃ K, call (d + 1) 41 [vR 36, vR 39, vL f] I = some (none, K) ∧ XN4 K 39 (v * f) ∧ FrN1 39 I K := by
  obtain ⟨l0, l1, l2, l3⟩ := hN.l
  have hp : ∀ i, 0 ≤ lmb v i * f ∧ lmb v i * f ≤ 10737418240 := fun i => by
    have h := lmb_r (v := v) i
    exact ⟨Int.mul_nonneg h.1 hf.1, by have := Int.mul_le_mul (show lmb v i ≤ 1073741824 by omega) hf.2 hf.1 (by decide); omega⟩
  have hp0 := hp 0; have hp1 := hp 1; have hp2 := hp 2; have hp3 := hp 3
  have hw : v * f = lmb v 0 * f + lmb v 1 * f * 1073741824 + lmb v 2 * f * 1152921504606846976 + lmb v 3 * f * 1237940039285380274899124224 := by
    have e := congrArg (· * f) (val4 hN.1)
    simp only [Int.add_mul] at e
    rw [Int.mul_right_comm (lmb v 1), Int.mul_right_comm (lmb v 2), Int.mul_right_comm (lmb v 3)] at e
    exact e
  obtain ⟨r0, r1, r2, r3⟩ := carry4 hp0 hp1 hp2 hp3 hw hb
  have hv0 : 0 ≤ v * f := Int.mul_nonneg hN.1.1 hf.1
  refine ⟨mset (mset (mset (mset I 39 0 (lmb (v * f) 0)) 39 1 (lmb (v * f) 1)) 39 2 (lmb (v * f) 2)) 39 3 (lmb (v * f) 3), ?_, XN4.of ⟨hv0, hb⟩ (by simp [mset_at]) (by simp [mset_at]) (by simp [mset_at]) (by simp [mset_at]), fun b i h => ?_⟩
  · rw [en41a, ← r0, ← r1, ← r2, ← r3]
    clear hw r0 r1 r2 r3 hb hv0 hp
    simp (disch := omega) only [r41_0, r41_1, r41_3, r41_4, r41_6, r41_8, r41_9, r41_12, r41_14a, r41_15a, r41_17a, r41_18, r41_19, r41_20, r41_21, r41_23a, r41_24a, r41_26a, r41_28a, r41_31a, r41_32a, r41_33, r41_35, r41_37, r41_38, r41_40, r41_43, r41_46, ↓if_pos, ↓if_neg, kill, l0, l1, l2, l3, mset_at, lmul_eq, ladd_eq, land30, lshr30, iadd_eq, Int.reduceAdd, Int.zero_add]
  · rw [mset_at, if_neg (fun q => h q.1), mset_at, if_neg (fun q => h q.1), mset_at, if_neg (fun q => h q.1), mset_at, if_neg (fun q => h q.1)]
end
