/-! The fraction of the class: the chance. -/
def mulO (f : Int) : Nat → Int → Int
  | 0, v => v
  | k + 1, v => mulO f k (v * f)
def wy (n : Nat) : Nat → Int
  | 0 => 1
  | j + 1 => wy n j * ((n : Int) - j) / ((j : Int) + 1)
def trm (n : Nat) (w : Int) (j : Nat) : Int := mulO (10 - w) (n - j) (mulO w j (wy n j))
def smF (n : Nat) (w k : Int) : Nat → Nat → Int → Int
  | 0, _, acc => acc
  | f + 1, j, acc => smF n w k f (j + 1) (if k ≤ j then acc + trm n w j else acc)
def shn (n : Nat) (a b : Int) : Int × Int := if a = 0 then (0, 1) else red 5 n (red 2 n a b).1 (red 2 n a b).2
section
variable {d : Nat} {I J K : MM} {v f u w k : Int} {n : Nat}
theorem wy_b : ∀ n, n ≤ 20 → ∀ j, j ≤ n + 1 → 0 ≤ wy n j ∧ wy n j ≤ 184756 := by decide +kernel
theorem mulO_b (hf : 0 ≤ f ∧ f ≤ 10) : ∀ (k : Nat) (v : Int), 0 ≤ v → 0 ≤ mulO f k v ∧ mulO f k v ≤ v * 10 ^ k
  | 0, v, h => ⟨h, by rw [mulO]; simp⟩
  | k + 1, v, h => by
    have h1 : 0 ≤ v * f := Int.mul_nonneg h hf.1
    obtain ⟨i1, i2⟩ := mulO_b hf k (v * f) h1
    rw [mulO]
    refine ⟨i1, Int.le_trans i2 ?_⟩
    rw [show (10 : Int) ^ (k + 1) = 10 * 10 ^ k by rw [Int.pow_succ, Int.mul_comm], ← Int.mul_assoc]
    refine Int.mul_le_mul_of_nonneg_right ?_ (Int.le_of_lt (Int.pow_pos (by decide)))
    exact Int.mul_le_mul_of_nonneg_left hf.2 h
theorem pow10_b : ∀ k : Nat, k ≤ 20 → 0 < (10 : Int) ^ k ∧ (10 : Int) ^ k ≤ 100000000000000000000 := by decide +kernel
theorem trm_b (hn : n ≤ 20) (hw : 0 ≤ w ∧ w ≤ 10) {j : Nat} (hj : j ≤ n) : 0 ≤ trm n w j ∧ trm n w j ≤ 18475600000000000000000000 := by
  obtain ⟨a1, a2⟩ := wy_b n hn j (by omega)
  obtain ⟨b1, b2⟩ := mulO_b hw j (wy n j) a1
  obtain ⟨c1, c2⟩ := mulO_b (f := 10 - w) (by omega) (n - j) (mulO w j (wy n j)) b1
  refine ⟨c1, Int.le_trans c2 (Int.le_trans (Int.mul_le_mul_of_nonneg_right b2 (Int.le_of_lt (Int.pow_pos (by decide)))) ?_)⟩
  rw [Int.mul_assoc, ← Int.pow_add, show j + (n - j) = n by omega]
  have hp := pow10_b n hn
  exact Int.le_trans (Int.mul_le_mul_of_nonneg_right a2 (Int.le_of_lt hp.1)) (Int.le_trans (Int.mul_le_mul_of_nonneg_left hp.2 (by decide)) (by decide))
theorem smF_b (hn : n ≤ 20) (hw : 0 ≤ w ∧ w ≤ 10) : ∀ (f j : Nat) (acc : Int), j + f = n + 1 → 0 ≤ acc → acc ≤ j * 18475600000000000000000000 → 0 ≤ smF n w k f j acc ∧ smF n w k f j acc ≤ 21 * 18475600000000000000000000 := by
  intro f
  induction f with
  | zero =>
    intro j acc h h0 h1
    have hj : (j : Int) ≤ 21 := by omega
    exact ⟨h0, Int.le_trans h1 (Int.mul_le_mul_of_nonneg_right hj (by omega))⟩
  | succ f ih =>
    intro j acc h h0 h1
    have ht := trm_b (w := w) hn hw (j := j) (by omega)
    rw [smF]
    refine ih (j + 1) _ (by omega) ?_ ?_
    · split <;> omega
    · have e : (((j + 1 : Nat) : Int)) * 18475600000000000000000000 = (j : Int) * 18475600000000000000000000 + 18475600000000000000000000 := by omega
      rw [e]
      split <;> omega
theorem x_shBy2 (hn : n ≤ 20) : ∀ (f : Nat) (i a b : Int) (J : MM), 0 ≤ i → i + f = n → XN4 J 37 a → XN4 J 38 b → ∃ K, runs (call (d + 1)) 45 2 [vR 36, vI 2, vI n, vI i] [] J = some (none, K) ∧ XN4 K 37 (red 2 f a b).1 ∧ XN4 K 38 (red 2 f a b).2 ∧ FrN2 J K := by
  intro f
  induction f with
  | zero =>
    intro i a b J i0 hi h1 h2
    refine ⟨J, ?_, h1, h2, fun _ _ _ _ => rfl⟩
    clear h1 h2
    simp (disch := omega) only [r45_0, r45_1, r45_2, r45_3, r45_4, r45_7, r45_8, r45_9, r45_12, r45_13, r45_16, r45_19, r45_20, r45_21, r45_24, r45_25, r45_28, r45_31, r45_32, r45_33, r45_36, r45_37, r45_40, r45_41, r45_42, r45_45, r45_46, r45_49, r45_52, r45_55, ↓if_pos, ↓if_neg]
  | succ f ih =>
    intro i a b J i0 hi h1 h2
    have c1 := x_isMul2_37 (d := d) h1
    have c2 := x_isMul2_38 (d := d) h2
    rw [red]
    by_cases ha : a % 2 = 0
    · rw [if_pos ha] at c1
      by_cases hb : b % 2 = 0
      · rw [if_pos hb] at c2
        rw [if_pos ⟨ha, hb⟩]
        obtain ⟨J1, c3, q3, f3⟩ := x_div2_37 (d := d) h1
        have h2' : XN4 J1 38 b := h2.cong (fun i => f3 38 i (by omega))
        obtain ⟨J2, c4, q4, f4⟩ := x_div2_38 (d := d) h2'
        have q3' : XN4 J2 37 (a / 2) := q3.cong (fun i => f4 37 i (by omega))
        obtain ⟨K, c5, r1, r2, f5⟩ := ih (i + 1) (a / 2) (b / 2) J2 (by omega) (by omega) q3' q4
        refine ⟨K, ?_, r1, r2, fun c i h1 h2 => (f5 c i h1 h2).trans ((f4 c i h2).trans (f3 c i h1))⟩
        rw [← c5, r45_2]
        clear ih c5 h1 h2 h2' q3 q3' q4 r1 r2
        simp (disch := omega) only [r45_0, r45_1, r45_3, r45_4, r45_7, r45_8, r45_9, r45_12, r45_13, r45_16, r45_19, r45_20, r45_21, r45_24, r45_25, r45_28, r45_31, r45_32, r45_33, r45_36, r45_37, r45_40, r45_41, r45_42, r45_45, r45_46, r45_49, r45_52, r45_55, ↓if_pos, ↓if_neg, c1, c2, c3, c4, iadd_eq, Option.bind_some, pushR_s, pushR_n]
      · rw [if_neg hb] at c2
        rw [if_neg (fun z => hb z.2)]
        refine ⟨J, ?_, h1, h2, fun _ _ _ _ => rfl⟩
        clear ih h1 h2
        simp (disch := omega) only [r45_0, r45_1, r45_2, r45_3, r45_4, r45_7, r45_8, r45_9, r45_12, r45_13, r45_16, r45_19, r45_20, r45_21, r45_24, r45_25, r45_28, r45_31, r45_32, r45_33, r45_36, r45_37, r45_40, r45_41, r45_42, r45_45, r45_46, r45_49, r45_52, r45_55, ↓if_pos, ↓if_neg, c1, c2, Option.bind_some, pushR_s]
    · rw [if_neg ha] at c1
      rw [if_neg (fun z => ha z.1)]
      refine ⟨J, ?_, h1, h2, fun _ _ _ _ => rfl⟩
      clear ih h1 h2
      simp (disch := omega) only [r45_0, r45_1, r45_2, r45_3, r45_4, r45_7, r45_8, r45_9, r45_12, r45_13, r45_16, r45_19, r45_20, r45_21, r45_24, r45_25, r45_28, r45_31, r45_32, r45_33, r45_36, r45_37, r45_40, r45_41, r45_42, r45_45, r45_46, r45_49, r45_52, r45_55, ↓if_pos, ↓if_neg, c1, Option.bind_some, pushR_s]
theorem x_shortBy2 {a b : Int} (hn : n ≤ 20) (h1 : XN4 I 37 a) (h2 : XN4 I 38 b) : ∃ K, call (d + 2) 45 [vR 36, vI 2, vI n] I = some (none, K) ∧ XN4 K 37 (red 2 n a b).1 ∧ XN4 K 38 (red 2 n a b).2 ∧ FrN2 I K := by
  obtain ⟨K, c1, r1, r2, f1⟩ := x_shBy2 (d := d) hn n 0 a b I (by omega) (by omega) h1 h2
  refine ⟨K, ?_, r1, r2, f1⟩
  rw [← c1, en45]
  clear c1 h1 h2 r1 r2
  simp (disch := omega) only [r45_0, r45_1, r45_3, r45_4, r45_7, r45_8, r45_9, r45_12, r45_13, r45_16, r45_19, r45_20, r45_21, r45_24, r45_25, r45_28, r45_31, r45_32, r45_33, r45_36, r45_37, r45_40, r45_41, r45_42, r45_45, r45_46, r45_49, r45_52, r45_55]
theorem x_shBy5 (hn : n ≤ 20) : ∀ (f : Nat) (i a b : Int) (J : MM), 0 ≤ i → i + f = n → XN4 J 37 a → XN4 J 38 b → ∃ K, runs (call (d + 1)) 45 2 [vR 36, vI 5, vI n, vI i] [] J = some (none, K) ∧ XN4 K 37 (red 5 f a b).1 ∧ XN4 K 38 (red 5 f a b).2 ∧ FrN2 J K := by
  intro f
  induction f with
  | zero =>
    intro i a b J i0 hi h1 h2
    refine ⟨J, ?_, h1, h2, fun _ _ _ _ => rfl⟩
    clear h1 h2
    simp (disch := omega) only [r45_0, r45_1, r45_2, r45_3, r45_4, r45_7, r45_8, r45_9, r45_12, r45_13, r45_16, r45_19, r45_20, r45_21, r45_24, r45_25, r45_28, r45_31, r45_32, r45_33, r45_36, r45_37, r45_40, r45_41, r45_42, r45_45, r45_46, r45_49, r45_52, r45_55, ↓if_pos, ↓if_neg]
  | succ f ih =>
    intro i a b J i0 hi h1 h2
    have c1 := x_isMul5_37 (d := d) h1
    have c2 := x_isMul5_38 (d := d) h2
    rw [red]
    by_cases ha : a % 5 = 0
    · rw [if_pos ha] at c1
      by_cases hb : b % 5 = 0
      · rw [if_pos hb] at c2
        rw [if_pos ⟨ha, hb⟩]
        obtain ⟨J1, c3, q3, f3⟩ := x_div5_37 (d := d) h1
        have h2' : XN4 J1 38 b := h2.cong (fun i => f3 38 i (by omega))
        obtain ⟨J2, c4, q4, f4⟩ := x_div5_38 (d := d) h2'
        have q3' : XN4 J2 37 (a / 5) := q3.cong (fun i => f4 37 i (by omega))
        obtain ⟨K, c5, r1, r2, f5⟩ := ih (i + 1) (a / 5) (b / 5) J2 (by omega) (by omega) q3' q4
        refine ⟨K, ?_, r1, r2, fun c i h1 h2 => (f5 c i h1 h2).trans ((f4 c i h2).trans (f3 c i h1))⟩
        rw [← c5, r45_2]
        clear ih c5 h1 h2 h2' q3 q3' q4 r1 r2
        simp (disch := omega) only [r45_0, r45_1, r45_3, r45_4, r45_7, r45_8, r45_9, r45_12, r45_13, r45_16, r45_19, r45_20, r45_21, r45_24, r45_25, r45_28, r45_31, r45_32, r45_33, r45_36, r45_37, r45_40, r45_41, r45_42, r45_45, r45_46, r45_49, r45_52, r45_55, ↓if_pos, ↓if_neg, c1, c2, c3, c4, iadd_eq, Option.bind_some, pushR_s, pushR_n]
      · rw [if_neg hb] at c2
        rw [if_neg (fun z => hb z.2)]
        refine ⟨J, ?_, h1, h2, fun _ _ _ _ => rfl⟩
        clear ih h1 h2
        simp (disch := omega) only [r45_0, r45_1, r45_2, r45_3, r45_4, r45_7, r45_8, r45_9, r45_12, r45_13, r45_16, r45_19, r45_20, r45_21, r45_24, r45_25, r45_28, r45_31, r45_32, r45_33, r45_36, r45_37, r45_40, r45_41, r45_42, r45_45, r45_46, r45_49, r45_52, r45_55, ↓if_pos, ↓if_neg, c1, c2, Option.bind_some, pushR_s]
    · rw [if_neg ha] at c1
      rw [if_neg (fun z => ha z.1)]
      refine ⟨J, ?_, h1, h2, fun _ _ _ _ => rfl⟩
      clear ih h1 h2
      simp (disch := omega) only [r45_0, r45_1, r45_2, r45_3, r45_4, r45_7, r45_8, r45_9, r45_12, r45_13, r45_16, r45_19, r45_20, r45_21, r45_24, r45_25, r45_28, r45_31, r45_32, r45_33, r45_36, r45_37, r45_40, r45_41, r45_42, r45_45, r45_46, r45_49, r45_52, r45_55, ↓if_pos, ↓if_neg, c1, Option.bind_some, pushR_s]
theorem x_shortBy5 {a b : Int} (hn : n ≤ 20) (h1 : XN4 I 37 a) (h2 : XN4 I 38 b) : ∃ K, call (d + 2) 45 [vR 36, vI 5, vI n] I = some (none, K) ∧ XN4 K 37 (red 5 n a b).1 ∧ XN4 K 38 (red 5 n a b).2 ∧ FrN2 I K := by
  obtain ⟨K, c1, r1, r2, f1⟩ := x_shBy5 (d := d) hn n 0 a b I (by omega) (by omega) h1 h2
  refine ⟨K, ?_, r1, r2, f1⟩
  rw [← c1, en45]
  clear c1 h1 h2 r1 r2
  simp (disch := omega) only [r45_0, r45_1, r45_3, r45_4, r45_7, r45_8, r45_9, r45_12, r45_13, r45_16, r45_19, r45_20, r45_21, r45_24, r45_25, r45_28, r45_31, r45_32, r45_33, r45_36, r45_37, r45_40, r45_41, r45_42, r45_45, r45_46, r45_49, r45_52, r45_55]
theorem lsz_0 (h : 0 ≤ v) : lsz v = 0 ↔ v = 0 := by
  unfold lsz
  split
  · omega
  · split
    · omega
    · split
      · omega
      · split <;> omega
theorem x_shorten {a b : Int} (hn : n ≤ 20) (h1 : XN4 I 37 a) (h2 : XN4 I 38 b) : ∃ K, call (d + 3) 44 [vR 36, vI n] I = some (none, K) ∧ XN4 K 37 (shn n a b).1 ∧ XN4 K 38 (shn n a b).2 ∧ FrN2 I K := by
  have c0 := x_size37 (d := d + 1) h1
  have hz := lsz_0 h1.1.1
  unfold shn
  by_cases ha : a = 0
  · rw [if_pos ha]
    rw [hz.mpr ha] at c0
    obtain ⟨K, c1, q1, f1⟩ := x_setTo38 (d := d + 1) (I := I) (v := 1) (by omega)
    refine ⟨K, ?_, ?_, q1, fun c i _ h2 => f1 c i h2⟩
    · rw [en44]
      clear h1 h2 q1 hz
      simp (disch := omega) only [r44_0, r44_1, r44_2, r44_5, r44_8, r44_11, r44_12, r44_13, r44_16, r44_17, r44_20, r44_21, r44_22, r44_23, r44_24, r44_27, r44_28, r44_29, r44_30, r44_33, ↓if_pos, ↓if_neg, c0, c1, Option.bind_some, pushR_s, pushR_n]
    · have := h1.cong (J := K) (fun i => f1 37 i (by omega))
      rw [ha] at this; exact this
  · rw [if_neg ha]
    obtain ⟨J1, c1, q1, q2, f1⟩ := x_shortBy2 (d := d) hn h1 h2
    obtain ⟨J2, c2, q3, q4, f2⟩ := x_shortBy5 (d := d) hn q1 q2
    refine ⟨J2, ?_, q3, q4, fun c i h1 h2 => (f2 c i h1 h2).trans (f1 c i h1 h2)⟩
    have hne : ¬ lsz a = 0 := fun z => ha (hz.mp z)
    rw [en44]
    clear h1 h2 q1 q2 q3 q4 hz
    simp (disch := first | omega | exact hne) only [r44_0, r44_1, r44_2, r44_5, r44_8, r44_11, r44_12, r44_13, r44_16, r44_17, r44_20, r44_21, r44_22, r44_23, r44_24, r44_27, r44_28, r44_29, r44_30, r44_33, ↓if_pos, ↓if_neg, c0, c1, c2, Option.bind_some, pushR_s, pushR_n]
theorem x_mulO (hf : 0 ≤ f ∧ f ≤ 10) : ∀ (m : Nat) (i v : Int) (t : Nat) (J : MM), 0 ≤ i → i + m = t → t ≤ 20 → XN4 J 39 v → v * 10 ^ m < 1329227995784915872903807060280344576 → ∃ K, runs (call (d + 1)) 42 2 [vR 36, vI f, vI t, vI i] [] J = some (none, K) ∧ XN4 K 39 (mulO f m v) ∧ FrN1 39 J K := by
  intro m
  induction m with
  | zero =>
    intro i v t J i0 hi ht h1 hb
    refine ⟨J, ?_, h1, fun _ _ _ => rfl⟩
    clear h1 hb
    simp (disch := omega) only [r42_0, r42_1, r42_2, r42_3, r42_4, r42_7, r42_8, r42_9, r42_12, r42_13, r42_14, r42_17, r42_20, r42_23, ↓if_pos, ↓if_neg]
  | succ m ih =>
    intro i v t J i0 hi ht h1 hb
    have hv := h1.1.1
    have hp : (0 : Int) < 10 ^ m := Int.pow_pos (by decide)
    have e10 : v * 10 ^ (m + 1) = v * 10 * 10 ^ m := by rw [Int.pow_succ, Int.mul_comm (10 ^ m : Int) 10, Int.mul_assoc]
    rw [e10] at hb
    have hle : v * f ≤ v * 10 := Int.mul_le_mul_of_nonneg_left hf.2 hv
    have hb2 : v * f * 10 ^ m < 1329227995784915872903807060280344576 := Int.lt_of_le_of_lt (Int.mul_le_mul_of_nonneg_right hle (Int.le_of_lt hp)) hb
    have hb1 : v * f < 1329227995784915872903807060280344576 := by
      refine Int.lt_of_le_of_lt ?_ hb2
      have h0 : 0 ≤ v * f := Int.mul_nonneg hv hf.1
      have := Int.mul_le_mul_of_nonneg_left (show (1 : Int) ≤ 10 ^ m by omega) h0
      rw [Int.mul_one] at this; exact this
    obtain ⟨J1, c1, q1, f1⟩ := x_mult39 (d := d) h1 hf hb1
    obtain ⟨K, c2, q2, f2⟩ := ih (i + 1) (v * f) t J1 (by omega) (by omega) ht q1 hb2
    refine ⟨K, ?_, q2, fun c i h => (f2 c i h).trans (f1 c i h)⟩
    rw [← c2, r42_2]
    clear ih c2 h1 hb hb1 hb2 hle q1 q2 e10
    simp (disch := omega) only [r42_0, r42_1, r42_3, r42_4, r42_7, r42_8, r42_9, r42_12, r42_13, r42_14, r42_17, r42_20, r42_23, ↓if_pos, ↓if_neg, c1, iadd_eq, Option.bind_some, pushR_n]
theorem x_multOften (hf : 0 ≤ f ∧ f ≤ 10) {t : Nat} (ht : t ≤ 20) (h1 : XN4 I 39 v) (hb : v * 10 ^ t < 1329227995784915872903807060280344576) : ∃ K, call (d + 2) 42 [vR 36, vI f, vI t] I = some (none, K) ∧ XN4 K 39 (mulO f t v) ∧ FrN1 39 I K := by
  obtain ⟨K, c1, q1, f1⟩ := x_mulO (d := d) hf t 0 v t I (by omega) (by omega) ht h1 hb
  refine ⟨K, ?_, q1, f1⟩
  rw [← c1, en42]
  clear c1 q1 h1 hb
  simp (disch := omega) only [r42_0, r42_1, r42_3, r42_4, r42_7, r42_8, r42_9, r42_12, r42_13, r42_14, r42_17, r42_20, r42_23]
end
