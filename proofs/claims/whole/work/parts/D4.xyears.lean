/-! years of the class. -/
def chn (n : Nat) (w k : Int) : Int × Int := shn n (smF n w k (n + 1) 0 0) (10 ^ n)
abbrev kYears (n w k : Int) : Prop := (1 ≤ n ∧ n ≤ 20) ∧ (0 ≤ w ∧ w ≤ 10) ∧ 0 ≤ k ∧ k ≤ n
def wetS (s : ST) (w : Int) : Int := if (mrS s 40).2.1 = -1 then 0 else w
def aYears (n w k : Int) : Int := if kYears n w k then 1 else -2
def sYears (s : ST) (n w k : Int) : ST := if kYears n w k then up s 3 5 (fun i => if i = 0 then (chn n.toNat (wetS s w) k).1 else (chn n.toNat (wetS s w) k).2) else bump s 0
section
variable {d : Nat} {I J K : MM} {v f u w k p : Int} {n : Nat} {s : ST}
theorem red_b (hp : 1 < p) : ∀ (f : Nat) (a b : Int), 0 ≤ a → 0 ≤ b → (0 ≤ (red p f a b).1 ∧ (red p f a b).1 ≤ a) ∧ 0 ≤ (red p f a b).2 ∧ (red p f a b).2 ≤ b
  | 0, a, b, ha, hb => ⟨⟨ha, Int.le_refl _⟩, hb, Int.le_refl _⟩
  | f + 1, a, b, ha, hb => by
    rw [red]
    split
    · have a1 := Int.ediv_nonneg ha (show 0 ≤ p by omega)
      have b1 := Int.ediv_nonneg hb (show 0 ≤ p by omega)
      obtain ⟨h1, h2⟩ := red_b hp f (a / p) (b / p) a1 b1
      have a2 := Int.ediv_le_self p ha
      have b2 := Int.ediv_le_self p hb
      exact ⟨⟨h1.1, Int.le_trans h1.2 a2⟩, h2.1, Int.le_trans h2.2 b2⟩
    · exact ⟨⟨ha, Int.le_refl _⟩, hb, Int.le_refl _⟩
theorem chn_b (hn : n ≤ 20) (hw : 0 ≤ w ∧ w ≤ 10) : (0 ≤ (chn n w k).1 ∧ (chn n w k).1 < 1329227995784915872903807060280344576) ∧ 0 ≤ (chn n w k).2 ∧ (chn n w k).2 < 1329227995784915872903807060280344576 := by
  have hs := smF_b (k := k) hn hw (n + 1) 0 0 (by omega) (Int.le_refl 0) (by simp)
  have hp := pow10_b n hn
  unfold chn shn
  generalize smF n w k (n + 1) 0 0 = a at *
  generalize (10 : Int) ^ n = b at *
  split
  · show ((0 : Int) ≤ 0 ∧ (0 : Int) < _) ∧ (0 : Int) ≤ 1 ∧ (1 : Int) < _
    omega
  · obtain ⟨h1, h2⟩ := red_b (p := 2) (by decide) n a b hs.1 (by omega)
    obtain ⟨h3, h4⟩ := red_b (p := 5) (by decide) n _ _ h1.1 h2.1
    omega
theorem x_pow (hn : n ≤ 20) (w k : Int) : ∀ (f i : Nat) (J : MM), i + f = n → XN4 J 38 (10 ^ i) → ∃ K, runs (call (d + 1)) 39 21 [vR 36, vI n, vI w, vI k, vI i, vR 0, vR 0] [] J = runs (call (d + 1)) 39 44 [vR 36, vI n, vI w, vI k, vI n, vR 0, vR 0] [] K ∧ XN4 K 38 (10 ^ n) ∧ FrN1 38 J K := by
  intro f
  induction f with
  | zero =>
    intro i J hi h1
    have : i = n := by omega
    subst this
    refine ⟨J, ?_, h1, fun _ _ _ => rfl⟩
    clear h1
    simp (disch := omega) only [r39_0, r39_1, r39_2, r39_5, r39_6, r39_9, r39_10, r39_11, r39_14, r39_15, r39_18, r39_19, r39_21, r39_23, r39_24, r39_27, r39_28, r39_29, r39_32, r39_35, r39_38, r39_41, r39_45, r39_47, r39_48, r39_50, r39_52, r39_53, r39_56, r39_58, r39_59, r39_62, r39_63, r39_64, r39_67, r39_69, r39_72, r39_73, r39_74, r39_76, r39_79, r39_80, r39_82, r39_83, r39_84, r39_85, r39_87, r39_88, r39_91, r39_92, r39_95, r39_97, r39_98, r39_100, r39_101, r39_102, r39_103, r39_105, r39_106, r39_107, r39_108, r39_109, r39_111, r39_114, r39_117, r39_118, r39_119, r39_122, r39_123, r39_124, r39_125, r39_128, r39_131, r39_134, r39_135, r39_136, r39_137, r39_140, r39_143, r39_146, ↓if_pos, ↓if_neg]
  | succ f ih =>
    intro i J hi h1
    have hp := pow10_b (i + 1) (by omega)
    have ep : (10 : Int) ^ (i + 1) = 10 ^ i * 10 := Int.pow_succ _ _
    obtain ⟨J1, c1, q1, f1⟩ := x_mult38 (d := d) (f := 10) h1 (by omega) (by rw [← ep]; omega)
    rw [← ep] at q1
    obtain ⟨K, c2, q2, f2⟩ := ih (i + 1) J1 (by omega) q1
    refine ⟨K, ?_, q2, fun c j h => (f2 c j h).trans (f1 c j h)⟩
    have e1 : ((i + 1 : Nat) : Int) = (i : Int) + 1 := by omega
    rw [← c2, e1, r39_21]
    clear ih c2 h1 q1 q2 hp ep
    simp (disch := omega) only [r39_0, r39_1, r39_2, r39_5, r39_6, r39_9, r39_10, r39_11, r39_14, r39_15, r39_18, r39_19, r39_23, r39_24, r39_27, r39_28, r39_29, r39_32, r39_35, r39_38, r39_41, r39_44, r39_45, r39_47, r39_48, r39_50, r39_52, r39_53, r39_56, r39_58, r39_59, r39_62, r39_63, r39_64, r39_67, r39_69, r39_72, r39_73, r39_74, r39_76, r39_79, r39_80, r39_82, r39_83, r39_84, r39_85, r39_87, r39_88, r39_91, r39_92, r39_95, r39_97, r39_98, r39_100, r39_101, r39_102, r39_103, r39_105, r39_106, r39_107, r39_108, r39_109, r39_111, r39_114, r39_117, r39_118, r39_119, r39_122, r39_123, r39_124, r39_125, r39_128, r39_131, r39_134, r39_135, r39_136, r39_137, r39_140, r39_143, r39_146, ↓if_pos, ↓if_neg, c1, iadd_eq, Option.bind_some, pushR_n]
theorem x_chL (hn : n ≤ 20) (hw : 0 ≤ w ∧ w ≤ 10) : ∀ (f j : Nat) (acc : Int) (J : MM), j + f = n + 1 → 0 ≤ acc → acc ≤ j * 18475600000000000000000000 → XN4 J 37 acc → ∃ K y, runs (call (d + 3)) 39 50 [vR 36, vI n, vI w, vI k, vL (wy n j), vR 0, vI j] [] J = runs (call (d + 3)) 39 117 [vR 36, vI n, vI w, vI k, vL y, vR 0, vI (n + 1)] [] K ∧ XN4 K 37 (smF n w k f j acc) ∧ (∀ c i, c ≠ 37 → c ≠ 39 → K c i = J c i) := by
  intro f
  induction f with
  | zero =>
    intro j acc J hj h0 h1 h2
    have e : (j : Int) = (n : Int) + 1 := by omega
    refine ⟨J, wy n j, ?_, h2, fun _ _ _ _ => rfl⟩
    rw [e]
    clear h0 h1 h2 e
    simp (disch := omega) only [r39_0, r39_1, r39_2, r39_5, r39_6, r39_9, r39_10, r39_11, r39_14, r39_15, r39_18, r39_19, r39_21, r39_23, r39_24, r39_27, r39_28, r39_29, r39_32, r39_35, r39_38, r39_41, r39_44, r39_45, r39_47, r39_48, r39_50, r39_52, r39_53, r39_56, r39_58, r39_59, r39_62, r39_63, r39_64, r39_67, r39_69, r39_72, r39_73, r39_74, r39_76, r39_79, r39_80, r39_82, r39_83, r39_84, r39_85, r39_87, r39_88, r39_91, r39_92, r39_95, r39_97, r39_98, r39_100, r39_101, r39_102, r39_103, r39_105, r39_106, r39_107, r39_108, r39_109, r39_111, r39_114, r39_118, r39_119, r39_122, r39_123, r39_124, r39_125, r39_128, r39_131, r39_134, r39_135, r39_136, r39_137, r39_140, r39_143, r39_146, ↓if_pos, ↓if_neg]
  | succ f ih =>
    intro j acc J hj h0 h1 h2
    have hjn : j ≤ n := by omega
    have hwy := wy_b n hn j (by omega)
    have ht := trm_b (w := w) hn hw hjn
    have e1 : ((j + 1 : Nat) : Int) = (j : Int) + 1 := by omega
    have e2 : (((j + 1 : Nat) : Int)) * 18475600000000000000000000 = (j : Int) * 18475600000000000000000000 + 18475600000000000000000000 := by omega
    have hpr : 0 ≤ wy n j * ((n : Int) - j) ∧ wy n j * ((n : Int) - j) ≤ 3695120 := by
      refine ⟨Int.mul_nonneg hwy.1 (by omega), ?_⟩
      have := Int.mul_le_mul hwy.2 (show (n : Int) - j ≤ 20 by omega) (by omega) (by decide)
      omega
    have hwn : ldiv (wy n j * ((n : Int) - j)) ((j : Int) + 1) = wy n (j + 1) := ldiv_pos (by omega) (by omega)
    have hstep : ∀ (M : MM) (u : Int), runs (call (d + 3)) 39 95 [vR 36, vI n, vI w, vI k, vL (wy n j), vR 0, vI j] [] M = runs (call (d + 3)) 39 50 [vR 36, vI n, vI w, vI k, vL (wy n (j + 1)), vR 0, vI ((j : Int) + 1)] [] M := fun M u => by
      clear ih h0 h1 h2 ht e1 e2
      simp (disch := omega) only [r39_0, r39_1, r39_2, r39_5, r39_6, r39_9, r39_10, r39_11, r39_14, r39_15, r39_18, r39_19, r39_21, r39_23, r39_24, r39_27, r39_28, r39_29, r39_32, r39_35, r39_38, r39_41, r39_44, r39_45, r39_47, r39_48, r39_52, r39_53, r39_56, r39_58, r39_59, r39_62, r39_63, r39_64, r39_67, r39_69, r39_72, r39_73, r39_74, r39_76, r39_79, r39_80, r39_82, r39_83, r39_84, r39_85, r39_87, r39_88, r39_91, r39_92, r39_95, r39_97, r39_98, r39_100, r39_101, r39_102, r39_103, r39_105, r39_106, r39_107, r39_108, r39_109, r39_111, r39_114, r39_117, r39_118, r39_119, r39_122, r39_123, r39_124, r39_125, r39_128, r39_131, r39_134, r39_135, r39_136, r39_137, r39_140, r39_143, r39_146, ↓if_pos, ↓if_neg, kill, isub_eq, iadd_eq, lmul_eq, hwn]
    rw [smF]
    by_cases hk : k ≤ j
    · rw [if_pos hk]
      obtain ⟨J1, c1, q1, f1⟩ := x_setTo39 (d := d + 2) (I := J) (v := wy n j) (by omega)
      have hp20 := pow10_b j (by omega)
      have hb1 : wy n j * 10 ^ j < 1329227995784915872903807060280344576 := by
        have := Int.mul_le_mul hwy.2 hp20.2 (by omega) (by decide)
        omega
      obtain ⟨J2, c2, q2, f2⟩ := x_multOften (d := d + 1) hw (t := j) (by omega) q1 hb1
      have hm := mulO_b hw j (wy n j) hwy.1
      have hp21 := pow10_b (n - j) (by omega)
      have hb2 : mulO w j (wy n j) * 10 ^ (n - j) < 1329227995784915872903807060280344576 := by
        have h3 := Int.mul_le_mul_of_nonneg_right hm.2 (show 0 ≤ (10 : Int) ^ (n - j) by omega)
        rw [Int.mul_assoc, ← Int.pow_add, show j + (n - j) = n by omega] at h3
        have hp22 := pow10_b n hn
        have := Int.mul_le_mul hwy.2 hp22.2 (by omega) (by decide)
        omega
      obtain ⟨J3, c3, q3, f3⟩ := x_multOften (d := d + 1) (f := 10 - w) (by omega) (t := n - j) (by omega) q2 hb2
      have h23 : XN4 J3 37 acc := h2.cong (fun i => (f3 37 i (by omega)).trans ((f2 37 i (by omega)).trans (f1 37 i (by omega))))
      have hT : mulO (10 - w) (n - j) (mulO w j (wy n j)) = trm n w j := rfl
      rw [hT] at q3
      have hj21 : (j : Int) * 18475600000000000000000000 ≤ 20 * 18475600000000000000000000 := Int.mul_le_mul_of_nonneg_right (by omega) (by omega)
      obtain ⟨J4, c4, q4, f4⟩ := x_addTerm (d := d + 2) h23 q3 (by omega)
      obtain ⟨K, y, c5, q5, f5⟩ := ih (j + 1) (acc + trm n w j) J4 (by omega) (by omega) (by rw [e2]; omega) q4
      refine ⟨K, y, ?_, q5, fun c i g1 g2 => (f5 c i g1 g2).trans ((f4 c i g1).trans ((f3 c i g2).trans ((f2 c i g2).trans (f1 c i g2))))⟩
      have en : (n : Int) - j = ((n - j : Nat) : Int) := by omega
      have hgo : runs (call (d + 3)) 39 50 [vR 36, vI n, vI w, vI k, vL (wy n j), vR 0, vI j] [] J = runs (call (d + 3)) 39 95 [vR 36, vI n, vI w, vI k, vL (wy n j), vR 0, vI j] [] J4 := by
        clear ih h0 h1 h2 ht e1 e2 hpr hwn hstep q1 q2 q3 q4 q5 hb1 hb2 hm hp20 hp21 h23 hT hj21 c5 hwy
        simp (disch := omega) only [r39_0, r39_1, r39_2, r39_5, r39_6, r39_9, r39_10, r39_11, r39_14, r39_15, r39_18, r39_19, r39_21, r39_23, r39_24, r39_27, r39_28, r39_29, r39_32, r39_35, r39_38, r39_41, r39_44, r39_45, r39_47, r39_48, r39_50, r39_52, r39_53, r39_56, r39_58, r39_59, r39_62, r39_63, r39_64, r39_67, r39_69, r39_72, r39_73, r39_74, r39_76, r39_79, r39_80, r39_82, r39_83, r39_84, r39_85, r39_87, r39_88, r39_91, r39_92, r39_97, r39_98, r39_100, r39_101, r39_102, r39_103, r39_105, r39_106, r39_107, r39_108, r39_109, r39_111, r39_114, r39_117, r39_118, r39_119, r39_122, r39_123, r39_124, r39_125, r39_128, r39_131, r39_134, r39_135, r39_136, r39_137, r39_140, r39_143, r39_146, ↓if_pos, ↓if_neg, c1, c2, isub_eq, en, c3, c4, Option.bind_some, pushR_n]
      rw [hgo, hstep J4 0, ← c5, e1]
    · rw [if_neg hk]
      obtain ⟨K, y, c5, q5, f5⟩ := ih (j + 1) acc J (by omega) h0 (by rw [e2]; omega) h2
      refine ⟨K, y, ?_, q5, f5⟩
      have hgo : runs (call (d + 3)) 39 50 [vR 36, vI n, vI w, vI k, vL (wy n j), vR 0, vI j] [] J = runs (call (d + 3)) 39 95 [vR 36, vI n, vI w, vI k, vL (wy n j), vR 0, vI j] [] J := by
        clear ih h0 h1 h2 ht e1 e2 hpr hwn hstep q5 c5 hwy
        simp (disch := omega) only [r39_0, r39_1, r39_2, r39_5, r39_6, r39_9, r39_10, r39_11, r39_14, r39_15, r39_18, r39_19, r39_21, r39_23, r39_24, r39_27, r39_28, r39_29, r39_32, r39_35, r39_38, r39_41, r39_44, r39_45, r39_47, r39_48, r39_50, r39_52, r39_53, r39_56, r39_58, r39_59, r39_62, r39_63, r39_64, r39_67, r39_69, r39_72, r39_73, r39_74, r39_76, r39_79, r39_80, r39_82, r39_83, r39_84, r39_85, r39_87, r39_88, r39_91, r39_92, r39_97, r39_98, r39_100, r39_101, r39_102, r39_103, r39_105, r39_106, r39_107, r39_108, r39_109, r39_111, r39_114, r39_117, r39_118, r39_119, r39_122, r39_123, r39_124, r39_125, r39_128, r39_131, r39_134, r39_135, r39_136, r39_137, r39_140, r39_143, r39_146, ↓if_pos, ↓if_neg]
      rw [hgo, hstep J 0, ← c5, e1]
theorem x_chance (hn : n ≤ 20) (hw : 0 ≤ w ∧ w ≤ 10) : ∃ K, call (d + 4) 39 [vR 36, vI n, vI w, vI k] I = some (none, K) ∧ FX K (fun i => if i = 0 then (chn n w k).1 else (chn n w k).2) ∧ (∀ c i, c ≠ 36 → c ≠ 37 → c ≠ 38 → c ≠ 39 → K c i = I c i) := by
  obtain ⟨J1, c1, q1, f1⟩ := x_setTo37 (d := d + 2) (I := I) (v := 0) (by omega)
  obtain ⟨J2, c2, q2, f2⟩ := x_setTo38 (d := d + 2) (I := J1) (v := 1) (by omega)
  obtain ⟨J3, c3, q3, f3⟩ := x_pow (d := d + 2) hn w k n 0 J2 (by omega) q2
  have q13 : XN4 J3 37 0 := q1.cong (fun i => (f3 37 i (by omega)).trans (f2 37 i (by omega)))
  obtain ⟨J4, y, c4, q4, f4⟩ := x_chL (d := d) (k := k) hn hw (n + 1) 0 0 J3 (by omega) (Int.le_refl 0) (by simp) q13
  have q34 : XN4 J4 38 (10 ^ n) := q3.cong (fun i => f4 38 i (by omega) (by omega))
  obtain ⟨J5, c5, q5, q6, f5⟩ := x_shorten (d := d) hn q4 q34
  have hC : shn n (smF n w k (n + 1) 0 0) (10 ^ n) = chn n w k := rfl
  rw [hC] at q5 q6
  have s1 := x_size37 (d := d + 2) q5
  have q6' : XN4 (mset J5 36 3 (lsz (chn n w k).1)) 38 (chn n w k).2 := q6.cong (fun i => by rw [mset_at, if_neg (by omega)])
  have s2 := x_size38 (d := d + 2) q6'
  refine ⟨mset (mset J5 36 3 (lsz (chn n w k).1)) 36 4 (lsz (chn n w k).2), ?_, ⟨fun i i0 i1 => ?_, fun i i0 i1 => ?_, ?_, ?_⟩, fun c i g1 g2 g3 g4 => ?_⟩
  · have w0 : wy n 0 = 1 := rfl
    rw [w0] at c4
    have z0 : ((0 : Nat) : Int) = 0 := rfl
    rw [z0] at c3 c4
    have h1 : call (d + 4) 39 [vR 36, vI n, vI w, vI k] I = runs (call (d + 3)) 39 21 [vR 36, vI n, vI w, vI k, vI 0, vR 0, vR 0] [] J2 := by
      rw [en39]
      clear c3 c4 c5 s1 s2 q1 q2 q3 q4 q5 q6 q6' q13 q34
      simp (disch := omega) only [r39_0, r39_1, r39_2, r39_5, r39_6, r39_9, r39_10, r39_11, r39_14, r39_15, r39_18, r39_19, r39_23, r39_24, r39_27, r39_28, r39_29, r39_32, r39_35, r39_38, r39_41, r39_44, r39_45, r39_47, r39_48, r39_50, r39_52, r39_53, r39_56, r39_58, r39_59, r39_62, r39_63, r39_64, r39_67, r39_69, r39_72, r39_73, r39_74, r39_76, r39_79, r39_80, r39_82, r39_83, r39_84, r39_85, r39_87, r39_88, r39_91, r39_92, r39_95, r39_97, r39_98, r39_100, r39_101, r39_102, r39_103, r39_105, r39_106, r39_107, r39_108, r39_109, r39_111, r39_114, r39_117, r39_118, r39_119, r39_122, r39_123, r39_124, r39_125, r39_128, r39_131, r39_134, r39_135, r39_136, r39_137, r39_140, r39_143, r39_146, kill, c1, c2, Option.bind_some, pushR_n]
    have h2 : runs (call (d + 3)) 39 44 [vR 36, vI n, vI w, vI k, vI n, vR 0, vR 0] [] J3 = runs (call (d + 3)) 39 50 [vR 36, vI n, vI w, vI k, vL 1, vR 0, vI 0] [] J3 := by
      clear c3 c4 c5 s1 s2 q1 q2 q3 q4 q5 q6 q6' q13 q34
      simp (disch := omega) only [r39_0, r39_1, r39_2, r39_5, r39_6, r39_9, r39_10, r39_11, r39_14, r39_15, r39_18, r39_19, r39_21, r39_23, r39_24, r39_27, r39_28, r39_29, r39_32, r39_35, r39_38, r39_41, r39_44, r39_45, r39_47, r39_48, r39_52, r39_53, r39_56, r39_58, r39_59, r39_62, r39_63, r39_64, r39_67, r39_69, r39_72, r39_73, r39_74, r39_76, r39_79, r39_80, r39_82, r39_83, r39_84, r39_85, r39_87, r39_88, r39_91, r39_92, r39_95, r39_97, r39_98, r39_100, r39_101, r39_102, r39_103, r39_105, r39_106, r39_107, r39_108, r39_109, r39_111, r39_114, r39_117, r39_118, r39_119, r39_122, r39_123, r39_124, r39_125, r39_128, r39_131, r39_134, r39_135, r39_136, r39_137, r39_140, r39_143, r39_146, kill]
    rw [h1, c3, h2, c4]
    clear c3 c4 q1 q2 q3 q4 q5 q6 q6' q13 q34 h1 h2
    simp (disch := omega) only [r39_0, r39_1, r39_2, r39_5, r39_6, r39_9, r39_10, r39_11, r39_14, r39_15, r39_18, r39_19, r39_21, r39_23, r39_24, r39_27, r39_28, r39_29, r39_32, r39_35, r39_38, r39_41, r39_44, r39_45, r39_47, r39_48, r39_50, r39_52, r39_53, r39_56, r39_58, r39_59, r39_62, r39_63, r39_64, r39_67, r39_69, r39_72, r39_73, r39_74, r39_76, r39_79, r39_80, r39_82, r39_83, r39_84, r39_85, r39_87, r39_88, r39_91, r39_92, r39_95, r39_97, r39_98, r39_100, r39_101, r39_102, r39_103, r39_105, r39_106, r39_107, r39_108, r39_109, r39_111, r39_114, r39_117, r39_118, r39_119, r39_122, r39_123, r39_124, r39_125, r39_128, r39_131, r39_134, r39_135, r39_136, r39_137, r39_140, r39_143, r39_146, c5, s1, s2, Option.bind_some, pushR_s, pushR_n]
  · rw [mset_at, if_neg (by omega), mset_at, if_neg (by omega)]; exact q5.2 i i0 i1
  · rw [mset_at, if_neg (by omega), mset_at, if_neg (by omega)]; exact q6.2 i i0 i1
  · rw [mset_at, if_neg (by omega), mset_at, if_pos ⟨rfl, rfl⟩]; rfl
  · rw [mset_at, if_pos ⟨rfl, rfl⟩]; rfl
  · rw [mset_at, if_neg (by omega), mset_at, if_neg (by omega), f5 c i g2 g3, f4 c i g2 g4, f3 c i g3, f2 c i g3, f1 c i g2]
end
