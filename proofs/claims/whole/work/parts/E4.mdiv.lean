/-! Numbers of the model: division by any number, bit by bit. -/
section
variable {d : Nat} {I J K : MM} {v u f s t m n p G h X l : Int} {k : Nat}
theorem bit_n (hl : 0 ≤ l ∧ l < 1073741824) {n : Nat} (hn : n < 30) : land (lshr l (n : Int)) 1 = l / 2 ^ n % 2 := by
  obtain ⟨a, rfl⟩ : ∃ a : Nat, l = a := ⟨l.toNat, by omega⟩
  rw [lshr_n (by omega) (by omega)]
  have hb : a / 2 ^ n ≤ a := Nat.div_le_self _ _
  have e := land_n (a := a / 2 ^ n) (b := 1) (by omega)
  rw [show ((1 : Nat) : Int) = 1 from rfl] at e
  rw [e, Nat.and_one_is_mod]
  simp
theorem pow2_mod (l : Int) (n : Nat) : l % 2 ^ (n + 1) = l / 2 ^ n % 2 * 2 ^ n + l % 2 ^ n := by
  have hP : (0 : Int) < 2 ^ n := Int.pow_pos (by decide)
  rw [Int.pow_succ]
  have h1 := Int.emod_add_mul_ediv l (2 ^ n)
  have h2 := Int.emod_add_mul_ediv (l / 2 ^ n) 2
  have h3 := Int.emod_def l (2 ^ n * 2)
  rw [← Int.ediv_ediv_of_nonneg (Int.le_of_lt hP)] at h3
  generalize l / 2 ^ n = D at *
  generalize l % 2 ^ n = r at *
  generalize (2 : Int) ^ n = P at *
  generalize hQ : D / 2 = Q at *
  generalize hM : D % 2 = M at *
  have h4 : P * D = M * P + P * 2 * Q := by
    rw [← h2, Int.mul_add, Int.mul_comm P M, Int.mul_assoc]
  omega
/-- one more bit -/
theorem bit_s (hG : 0 < G) {a b : Int} (hb : 0 ≤ b ∧ b ≤ 1) : (a % G * 2 + b < G → (2 * a + b) / G = 2 * (a / G) ∧ (2 * a + b) % G = a % G * 2 + b) ∧ (G ≤ a % G * 2 + b → (2 * a + b) / G = 2 * (a / G) + 1 ∧ (2 * a + b) % G = a % G * 2 + b - G) := by
  have hne : G ≠ 0 := by omega
  have h1 := Int.emod_add_mul_ediv a G
  have a1 := Int.emod_nonneg a hne
  have a2 := Int.emod_lt_of_pos a hG
  have e : 2 * a + b = (a % G * 2 + b) + G * (2 * (a / G)) := by
    have : G * (2 * (a / G)) = 2 * (G * (a / G)) := by rw [← Int.mul_assoc, Int.mul_comm G 2, Int.mul_assoc]
    omega
  constructor
  · intro h
    rw [e, Int.add_mul_ediv_left _ _ hne, Int.add_mul_emod_self_left, Int.ediv_eq_zero_of_lt (by omega) h, Int.emod_eq_of_lt (by omega) h]
    omega
  · intro h
    have e2 : a % G * 2 + b = (a % G * 2 + b - G) + G * 1 := by omega
    rw [e, Int.add_mul_ediv_left _ _ hne, Int.add_mul_emod_self_left]
    rw [e2, Int.add_mul_ediv_left _ _ hne, Int.add_mul_emod_self_left, Int.ediv_eq_zero_of_lt (by omega) (by omega), Int.emod_eq_of_lt (by omega) (by omega)]
    omega
theorem m_addOne (hP : RP I 5 h) (he : h % 2 = 0) (hb : h + 1 < 1329227995784915872903807060280344576) : ∃ K, call (d + 2) 157 [vR 70] I = some (none, K) ∧ RP K 5 (h + 1) ∧ FrB 5 I K := by
  have hbz := lsz_r (v := h)
  have e1 := hP.2.1
  have hz := lsz_0 hP.1.1
  by_cases h0 : h = 0
  · subst h0
    obtain ⟨K, c1, q1, f1⟩ := m_set (d := d) (I := I) (s := 5) (v := 1) (by omega) (by omega)
    refine ⟨K, ?_, q1, f1⟩
    rw [show lsz 0 = 0 by decide] at e1
    rw [en157]
    clear hP q1 hz
    simp (disch := omega) only [r157_0, r157_1, r157_4, r157_5, r157_6, r157_9, r157_10, r157_11, r157_12, r157_15, r157_18, r157_19, r157_22, r157_25, r157_26, r157_27, r157_28, r157_29, r157_30, ↓if_pos, ↓if_neg, e1, c1, Option.bind_some, pushR_n]
  · have hl : ¬ lsz h = 0 := fun z => h0 (hz.mp z)
    have hp := hP.1
    have e2 := hP.2.2 0 (by omega) (by omega)
    rw [lmb0] at e2
    have e2 : I 75 320 = h % 1073741824 := e2
    have hsz : lsz (h + 1) = lsz h := by
      have g1 := lsz_mono (v := h) (u := h + 1) hp.1 hb (by omega)
      obtain ⟨k, hk⟩ : ∃ k : Nat, lsz h = (k : Int) + 1 := ⟨(lsz h - 1).toNat, by omega⟩
      have g2 := lsz_lt (k := k + 1) hp (by omega)
      rw [BB_s] at g2
      have g3 := lsz_le (v := h + 1) (k := k + 1) (by omega) (by rw [BB_s]; omega) (by omega)
      omega
    refine ⟨mset I 75 320 (h % 1073741824 + 1), ?_, ⟨by omega, ?_, fun i i0 i1 => ?_⟩, fun a i h1 h2 => by rw [mset_at, if_neg (by omega)]⟩
    · rw [en157]
      clear hP hz hsz
      simp (disch := omega) only [r157_0, r157_1, r157_4, r157_5, r157_6, r157_9, r157_10, r157_11, r157_12, r157_15, r157_18, r157_19, r157_22, r157_25, r157_26, r157_27, r157_28, r157_29, r157_30, ↓if_pos, ↓if_neg, e1, e2, ladd_eq]
    · rw [mset_at, if_neg (by omega), hsz]; exact e1
    · rw [hsz] at i1
      by_cases hi : i = 0
      · subst hi
        rw [mset_at, if_pos ⟨rfl, by omega⟩, lmb0]
        omega
      · rw [mset_at, if_neg (by omega), hP.2.2 i i0 i1]
        obtain ⟨k, hk⟩ : ∃ k : Nat, i = ((k + 1 : Nat) : Int) := ⟨(i - 1).toNat, by omega⟩
        have hPk := BB_pos k
        rw [hk, lmb_k, lmb_k, BB_s, Int.mul_comm, ← Int.ediv_ediv_of_nonneg (by decide), ← Int.ediv_ediv_of_nonneg (by decide)]
        have : (h + 1) / 1073741824 = h / 1073741824 := by omega
        rw [this]
theorem m_divB (hk : (k : Int) < lsz v) (hX : 0 ≤ X ∧ X < G) (h2G : 2 * G < 1329227995784915872903807060280344576) (hG : RP I 4 G) (hT : RP I 6 v) : ∀ (n : Nat) (J : MM) (a : Int), n ≤ 30 → FrB 5 I J → RP J 5 (a % G) → 0 ≤ a → a * 2 ^ n + lmb v (k : Int) % 2 ^ n = X * 1073741824 + lmb v (k : Int) → ∃ K, runs (call (d + 2)) 156 61 [vR 70, vI s, vI m, vI k, vL (a / G), vR 0, vI ((n : Int) - 1)] [] J = runs (call (d + 2)) 156 133 [vR 70, vI s, vI m, vI k, vL ((X * 1073741824 + lmb v (k : Int)) / G), vR 0, vI (-1)] [] K ∧ RP K 5 ((X * 1073741824 + lmb v (k : Int)) % G) ∧ FrB 5 I K := by
  have hb := lsz_r (v := v)
  have hlb := lmb_r (v := v) (k : Int)
  intro n
  induction n with
  | zero =>
    intro J a hn hf hr ha he
    rw [Int.pow_zero, Int.emod_one, Int.mul_one, Int.add_zero] at he
    rw [← he]
    refine ⟨J, ?_, hr, hf⟩
    clear hr hf he hG hT
    simp (disch := omega) only [r156_0, r156_1, r156_3, r156_4, r156_7, r156_8, r156_9, r156_10, r156_13, r156_14, r156_17, r156_19, r156_20, r156_21, r156_22, r156_23, r156_24, r156_25, r156_28, r156_29, r156_32, r156_34, r156_35, r156_36, r156_37, r156_38, r156_39, r156_40, r156_43, r156_46, r156_47, r156_48, r156_49, r156_50, r156_51, r156_54, r156_55, r156_57, r156_59, r156_61, r156_63, r156_66, r156_67, r156_68, r156_71, r156_74, r156_75, r156_78, r156_81, r156_82, r156_83, r156_84, r156_86, r156_87, r156_88, r156_89, r156_90, r156_91, r156_94, r156_95, r156_98, r156_101, r156_103, r156_104, r156_106, r156_107, r156_108, r156_109, r156_112, r156_115, r156_116, r156_117, r156_118, r156_121, r156_123, r156_124, r156_125, r156_127, r156_130, r156_134, r156_137, r156_139, r156_140, r156_141, r156_142, r156_143, r156_145, r156_146, r156_149, r156_152, r156_153, r156_154, r156_157, ↓if_pos, ↓if_neg]
    rfl
  | succ n ih =>
    intro J a hn hf hr ha he
    have hG0 : 0 < G := by omega
    have a1 := Int.emod_nonneg a (show G ≠ 0 by omega)
    have a2 := Int.emod_lt_of_pos a hG0
    have hbt := bit_n (l := lmb v (k : Int)) hlb (n := n) (by omega)
    have hb2 : 0 ≤ lmb v (k : Int) / 2 ^ n % 2 ∧ lmb v (k : Int) / 2 ^ n % 2 ≤ 1 := by omega
    have he' : (2 * a + lmb v (k : Int) / 2 ^ n % 2) * 2 ^ n + lmb v (k : Int) % 2 ^ n = X * 1073741824 + lmb v (k : Int) := by
      rw [← he, pow2_mod, Int.pow_succ, Int.add_mul]
      have : a * (2 ^ n * 2) = 2 * a * 2 ^ n := by rw [Int.mul_comm (2 ^ n) 2, ← Int.mul_assoc, Int.mul_comm a 2]
      omega
    have hq : 0 ≤ a / G ∧ a / G < 1073741824 := by
      refine ⟨Int.ediv_nonneg ha (by omega), Int.ediv_lt_of_lt_mul hG0 ?_⟩
      have hp : (0 : Int) < 2 ^ (n + 1) := Int.pow_pos (by decide)
      have h1 : a * 1 ≤ a * 2 ^ (n + 1) := Int.mul_le_mul_of_nonneg_left (by omega) ha
      have h2 := Int.emod_nonneg (lmb v (k : Int)) (show (2 : Int) ^ (n + 1) ≠ 0 by omega)
      omega
    obtain ⟨s1, s2⟩ := bit_s (a := a) hG0 hb2
    obtain ⟨J1, c1, r1, f1⟩ := m_times (d := d) (s := 5) (f := 2) (I := J) (by omega) (by omega) hr (by omega)
    have hf1 := hf.trans f1
    have eT : J1 75 (384 + k) = lmb v (k : Int) := (hf1 75 _ (by omega) (by omega)).trans (hT.2.2 k (by omega) hk)
    have eb : ((n + 1 : Nat) : Int) - 1 = n := by omega
    -- the bit is put on
    obtain ⟨J2, c2, r2, f2⟩ : ∃ J2, runs (call (d + 2)) 156 61 [vR 70, vI s, vI m, vI k, vL (a / G), vR 0, vI (((n + 1 : Nat) : Int) - 1)] [] J = runs (call (d + 2)) 156 98 [vR 70, vI s, vI m, vI k, vL (a / G), vR 0, vI n] [] J2 ∧ RP J2 5 (a % G * 2 + lmb v (k : Int) / 2 ^ n % 2) ∧ FrB 5 I J2 := by
      by_cases hb1 : lmb v (k : Int) / 2 ^ n % 2 = 1
      · obtain ⟨J2, c2, r2, f2⟩ := m_addOne (d := d) r1 (by omega) (by omega)
        refine ⟨J2, ?_, by rw [hb1]; exact r2, hf1.trans f2⟩
        rw [hb1] at hbt
        rw [eb]
        clear ih r1 r2 hr hG hT hf hf1 f1 f2 he he' s1 s2
        simp (disch := omega) only [r156_0, r156_1, r156_3, r156_4, r156_7, r156_8, r156_9, r156_10, r156_13, r156_14, r156_17, r156_19, r156_20, r156_21, r156_22, r156_23, r156_24, r156_25, r156_28, r156_29, r156_32, r156_34, r156_35, r156_36, r156_37, r156_38, r156_39, r156_40, r156_43, r156_46, r156_47, r156_48, r156_49, r156_50, r156_51, r156_54, r156_55, r156_57, r156_59, r156_61, r156_63, r156_66, r156_67, r156_68, r156_71, r156_74, r156_75, r156_78, r156_81, r156_82, r156_83, r156_84, r156_86, r156_87, r156_88, r156_89, r156_90, r156_91, r156_94, r156_95, r156_101, r156_103, r156_104, r156_106, r156_107, r156_108, r156_109, r156_112, r156_115, r156_116, r156_117, r156_118, r156_121, r156_123, r156_124, r156_125, r156_127, r156_130, r156_134, r156_137, r156_139, r156_140, r156_141, r156_142, r156_143, r156_145, r156_146, r156_149, r156_152, r156_153, r156_154, r156_157, ↓if_pos, ↓if_neg, kill, c1, c2, Option.bind_some, pushR_n, iadd_eq, eT, hbt]
      · have hb0 : lmb v (k : Int) / 2 ^ n % 2 = 0 := by omega
        refine ⟨J1, ?_, by rw [hb0, Int.add_zero]; exact r1, hf1⟩
        rw [hb0] at hbt
        rw [eb]
        clear ih r1 hr hG hT hf hf1 f1 he he' s1 s2
        simp (disch := omega) only [r156_0, r156_1, r156_3, r156_4, r156_7, r156_8, r156_9, r156_10, r156_13, r156_14, r156_17, r156_19, r156_20, r156_21, r156_22, r156_23, r156_24, r156_25, r156_28, r156_29, r156_32, r156_34, r156_35, r156_36, r156_37, r156_38, r156_39, r156_40, r156_43, r156_46, r156_47, r156_48, r156_49, r156_50, r156_51, r156_54, r156_55, r156_57, r156_59, r156_61, r156_63, r156_66, r156_67, r156_68, r156_71, r156_74, r156_75, r156_78, r156_81, r156_82, r156_83, r156_84, r156_86, r156_87, r156_88, r156_89, r156_90, r156_91, r156_94, r156_95, r156_101, r156_103, r156_104, r156_106, r156_107, r156_108, r156_109, r156_112, r156_115, r156_116, r156_117, r156_118, r156_121, r156_123, r156_124, r156_125, r156_127, r156_130, r156_134, r156_137, r156_139, r156_140, r156_141, r156_142, r156_143, r156_145, r156_146, r156_149, r156_152, r156_153, r156_154, r156_157, ↓if_pos, ↓if_neg, kill, c1, Option.bind_some, pushR_n, iadd_eq, eT, hbt]
    rw [c2]
    have hG2 := hG.fr f2 (by omega)
    have cc := m_compare (d := d + 1) (s := 5) (t := 4) (by omega) (by omega) r2 hG2
    have en : (n : Int) + -1 = (n : Int) - 1 := by omega
    generalize lmb v (k : Int) / 2 ^ n % 2 = b at *
    rcases Int.lt_or_le (a % G * 2 + b) G with z | z
    · obtain ⟨q1, q2⟩ := s1 z
      obtain ⟨K, c3, r3, f3⟩ := ih J2 (2 * a + b) (by omega) f2 (by rw [q2]; exact r2) (by omega) he'
      refine ⟨K, ?_, r3, f3⟩
      rw [← c3, q1]
      have ec : cmp (a % G * 2 + b) G = -1 := by unfold cmp; rw [if_pos z]
      rw [ec] at cc
      clear ih r1 r2 hr hG hT hf hf1 f1 f2 he he' s1 s2 hG2 c1 c2 c3 r3 f3 eT hbt
      simp (disch := omega) only [r156_0, r156_1, r156_3, r156_4, r156_7, r156_8, r156_9, r156_10, r156_13, r156_14, r156_17, r156_19, r156_20, r156_21, r156_22, r156_23, r156_24, r156_25, r156_28, r156_29, r156_32, r156_34, r156_35, r156_36, r156_37, r156_38, r156_39, r156_40, r156_43, r156_46, r156_47, r156_48, r156_49, r156_50, r156_51, r156_54, r156_55, r156_57, r156_59, r156_63, r156_66, r156_67, r156_68, r156_71, r156_74, r156_75, r156_78, r156_81, r156_82, r156_83, r156_84, r156_86, r156_87, r156_88, r156_89, r156_90, r156_91, r156_94, r156_95, r156_98, r156_101, r156_103, r156_104, r156_106, r156_107, r156_108, r156_109, r156_112, r156_115, r156_116, r156_117, r156_118, r156_121, r156_123, r156_124, r156_125, r156_127, r156_130, r156_134, r156_137, r156_139, r156_140, r156_141, r156_142, r156_143, r156_145, r156_146, r156_149, r156_152, r156_153, r156_154, r156_157, ↓if_pos, ↓if_neg, kill, cc, Option.bind_some, pushR_s, iadd_eq, lmul_eq, en]
    · obtain ⟨q1, q2⟩ := s2 z
      obtain ⟨J3, c4, r4, f4⟩ := m_take (d := d) (s := 5) (t := 4) (by omega) (by omega) (by omega) r2 hG2 z
      obtain ⟨K, c3, r3, f3⟩ := ih J3 (2 * a + b) (by omega) (f2.trans f4) (by rw [q2]; exact r4) (by omega) he'
      refine ⟨K, ?_, r3, f3⟩
      rw [← c3, q1]
      have ec : ¬ cmp (a % G * 2 + b) G < 0 := by unfold cmp; rw [if_neg (by omega)]; split <;> omega
      clear ih r1 r2 hr hG hT hf hf1 f1 f2 he he' s1 s2 hG2 c1 c2 c3 r3 f3 eT hbt r4 f4
      generalize cmp (a % G * 2 + b) G = cv at *
      simp (disch := omega) only [r156_0, r156_1, r156_3, r156_4, r156_7, r156_8, r156_9, r156_10, r156_13, r156_14, r156_17, r156_19, r156_20, r156_21, r156_22, r156_23, r156_24, r156_25, r156_28, r156_29, r156_32, r156_34, r156_35, r156_36, r156_37, r156_38, r156_39, r156_40, r156_43, r156_46, r156_47, r156_48, r156_49, r156_50, r156_51, r156_54, r156_55, r156_57, r156_59, r156_63, r156_66, r156_67, r156_68, r156_71, r156_74, r156_75, r156_78, r156_81, r156_82, r156_83, r156_84, r156_86, r156_87, r156_88, r156_89, r156_90, r156_91, r156_94, r156_95, r156_98, r156_101, r156_103, r156_104, r156_106, r156_107, r156_108, r156_109, r156_112, r156_115, r156_116, r156_117, r156_118, r156_121, r156_123, r156_124, r156_125, r156_127, r156_130, r156_134, r156_137, r156_139, r156_140, r156_141, r156_142, r156_143, r156_145, r156_146, r156_149, r156_152, r156_153, r156_154, r156_157, ↓if_pos, ↓if_neg, kill, cc, c4, Option.bind_some, pushR_s, pushR_n, iadd_eq, lmul_eq, ladd_eq, en]
end
