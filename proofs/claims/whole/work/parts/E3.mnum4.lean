/-! Numbers of the model: take, halve, compare. -/
section
variable {d : Nat} {I J K : MM} {v u f s t m n p : Int} {k : Nat}
theorem m_takeL (hs : 0 ≤ s ∧ s ≤ 7) (ht : 0 ≤ t ∧ t ≤ 7) (hne : s ≠ t) (hv : 0 ≤ v ∧ v < 1329227995784915872903807060280344576) (hu : RP I t u) (hle : u ≤ v) : ∀ (g k : Nat) (J : MM) (w7 w8 : AV), (k : Int) + g = lsz v → FrB s I J → J 76 s = lsz v → (∀ i : Int, 0 ≤ i → i < (k : Int) → J 75 (64 * s + i) = lmb (v - u) i) → (∀ i : Int, (k : Int) ≤ i → i < lsz v → J 75 (64 * s + i) = lmb v i) → ∃ K, runs (call (d + 1)) 152 5 [vR 70, vI s, vI t, vL (bc v u k), vR 0, vI k, w7, w8] [] J = some (none, K) ∧ RP K s (v - u) ∧ FrB s I K := by
  have hb := lsz_r (v := v)
  have hbu := lsz_r (v := u)
  have hlsz := lsz_mono (v := u) (u := v) hu.1.1 hv.2 hle
  intro g
  induction g with
  | zero =>
    intro k J w7 w8 hk hf e1 hlo hhi
    have hk' : lsz v = k := by omega
    have hv0 : 0 ≤ v - u ∧ v - u < 1329227995784915872903807060280344576 := by have := hu.1.1; have := hv.2; omega
    have hsz := lsz_mono (v := v - u) (u := v) hv0.1 hv.2 (by have := hu.1.1; omega)
    have hRL : RLm J s (k : Int) (v - u) := ⟨e1.trans hk', fun i i0 i1 => hlo i i0 i1⟩
    obtain ⟨K, c2, q2, f2⟩ := m_trim (d := d) hv0 hs (m := (k : Int)) ⟨by omega, by omega⟩ hRL
    refine ⟨K, ?_, q2, hf.trans (fun a i h1 h2 => f2 a i h2)⟩
    rw [hk'] at e1
    clear q2 hRL hlo hhi hv hu hv0 hf hsz
    simp (disch := omega) only [r152_0, r152_1, r152_2, r152_3, r152_5, r152_7, r152_8, r152_11, r152_12, r152_13, r152_16, r152_17, r152_20, r152_22, r152_23, r152_24, r152_26, r152_27, r152_28, r152_30, r152_31, r152_34, r152_35, r152_36, r152_39, r152_40, r152_43, r152_45, r152_46, r152_47, r152_49, r152_50, r152_51, r152_54, r152_55, r152_56, r152_57, r152_58, r152_60, r152_62, r152_63, r152_64, r152_67, r152_68, r152_71, r152_72, r152_73, r152_74, r152_77, r152_79, r152_80, r152_81, r152_83, r152_84, r152_86, r152_87, r152_90, r152_91, r152_92, r152_93, r152_96, r152_99, r152_100, r152_101, r152_104, ↓if_pos, ↓if_neg, kill, e1, c2, Option.bind_some, pushR_n]
  | succ g ih =>
    intro k J w7 w8 hk hf e1 hlo hhi
    have eu : J 76 t = lsz u := (hf 76 t (by omega) (by omega)).trans hu.2.1
    have hlb := lmb_r (v := v) (k : Int)
    have hlu := lmb_r (v := u) (k : Int)
    have hbc : bc v u k = 0 ∨ bc v u k = 1 := by unfold bc; split <;> omega
    obtain ⟨s1, s2⟩ := bc_s v u k
    obtain ⟨K, c2, q2, f2⟩ := ih (k + 1) (mset J 75 (64 * s + k) (lmb (v - u) k)) (vL (lmb v (k : Int) - lmb u (k : Int) - bc v u k)) (vR 0) (by omega) (hf.trans (FrB.s75 (i := (k : Int)) _ (by omega))) (by rw [mset_at, if_neg (by omega)]; exact e1) (fun i i0 i1 => by
      by_cases hi : i = k
      · rw [mset_at, if_pos ⟨rfl, by omega⟩, hi]
      · rw [mset_at, if_neg (by omega)]; exact hlo i i0 (by omega)) (fun i i0 i1 => by rw [mset_at, if_neg (by omega)]; exact hhi i (by omega) i1)
    refine ⟨K, ?_, q2, f2⟩
    have ek : ((k + 1 : Nat) : Int) = (k : Int) + 1 := by omega
    rw [← c2, ek, r152_5]
    have huk : (k : Int) < lsz u ∨ lmb u (k : Int) = 0 := by
      rcases Int.lt_or_le (k : Int) (lsz u) with z | z
      · exact Or.inl z
      · exact Or.inr (lmb_hi hu.1 z)
    have elv := hhi k (Int.le_refl _) (by omega)
    have elu : (k : Int) < lsz u → J 75 (64 * t + k) = lmb u (k : Int) := fun z => (hf 75 _ (by omega) (by omega)).trans (hu.2.2 k (by omega) z)
    clear ih c2 q2 f2 hlo hhi hv hf hu
    rcases Int.lt_or_le (lmb v (k : Int) - lmb u (k : Int) - bc v u k) 0 with z | z
    · obtain ⟨q1, q2⟩ := s2 z
      rw [q1, q2]
      clear s1 s2 q1 q2
      by_cases z2 : (k : Int) < lsz u
      · have elu := elu z2
        clear huk
        simp (disch := omega) only [r152_0, r152_1, r152_2, r152_3, r152_7, r152_8, r152_11, r152_12, r152_13, r152_16, r152_17, r152_20, r152_22, r152_23, r152_24, r152_26, r152_27, r152_28, r152_30, r152_31, r152_34, r152_35, r152_36, r152_39, r152_40, r152_43, r152_45, r152_46, r152_47, r152_49, r152_50, r152_51, r152_54, r152_55, r152_56, r152_57, r152_58, r152_60, r152_62, r152_63, r152_64, r152_67, r152_68, r152_71, r152_72, r152_73, r152_74, r152_77, r152_79, r152_80, r152_81, r152_83, r152_84, r152_86, r152_87, r152_90, r152_91, r152_92, r152_93, r152_96, r152_99, r152_100, r152_101, r152_104, ↓if_pos, ↓if_neg, kill, e1, eu, elv, elu, imul_eq, iadd_eq, ladd_eq, lsub_eq, lmul_eq, Int.one_mul]
      · have h0 : lmb u (k : Int) = 0 := huk.resolve_left z2
        clear huk elu
        rw [h0]
        rw [h0] at hlu z
        simp (disch := omega) only [r152_0, r152_1, r152_2, r152_3, r152_7, r152_8, r152_11, r152_12, r152_13, r152_16, r152_17, r152_20, r152_22, r152_23, r152_24, r152_26, r152_27, r152_28, r152_30, r152_31, r152_34, r152_35, r152_36, r152_39, r152_40, r152_43, r152_45, r152_46, r152_47, r152_49, r152_50, r152_51, r152_54, r152_55, r152_56, r152_57, r152_58, r152_60, r152_62, r152_63, r152_64, r152_67, r152_68, r152_71, r152_72, r152_73, r152_74, r152_77, r152_79, r152_80, r152_81, r152_83, r152_84, r152_86, r152_87, r152_90, r152_91, r152_92, r152_93, r152_96, r152_99, r152_100, r152_101, r152_104, ↓if_pos, ↓if_neg, kill, e1, eu, elv, imul_eq, iadd_eq, ladd_eq, lsub_eq, lmul_eq, Int.one_mul]
    · obtain ⟨q1, q2⟩ := s1 z
      rw [q1, q2]
      clear s1 s2 q1 q2
      by_cases z2 : (k : Int) < lsz u
      · have elu := elu z2
        clear huk
        simp (disch := omega) only [r152_0, r152_1, r152_2, r152_3, r152_7, r152_8, r152_11, r152_12, r152_13, r152_16, r152_17, r152_20, r152_22, r152_23, r152_24, r152_26, r152_27, r152_28, r152_30, r152_31, r152_34, r152_35, r152_36, r152_39, r152_40, r152_43, r152_45, r152_46, r152_47, r152_49, r152_50, r152_51, r152_54, r152_55, r152_56, r152_57, r152_58, r152_60, r152_62, r152_63, r152_64, r152_67, r152_68, r152_71, r152_72, r152_73, r152_74, r152_77, r152_79, r152_80, r152_81, r152_83, r152_84, r152_86, r152_87, r152_90, r152_91, r152_92, r152_93, r152_96, r152_99, r152_100, r152_101, r152_104, ↓if_pos, ↓if_neg, kill, e1, eu, elv, elu, imul_eq, iadd_eq, ladd_eq, lsub_eq, lmul_eq, Int.zero_mul, Int.add_zero]
      · have h0 : lmb u (k : Int) = 0 := huk.resolve_left z2
        clear huk elu
        rw [h0]
        rw [h0] at hlu z
        simp (disch := omega) only [r152_0, r152_1, r152_2, r152_3, r152_7, r152_8, r152_11, r152_12, r152_13, r152_16, r152_17, r152_20, r152_22, r152_23, r152_24, r152_26, r152_27, r152_28, r152_30, r152_31, r152_34, r152_35, r152_36, r152_39, r152_40, r152_43, r152_45, r152_46, r152_47, r152_49, r152_50, r152_51, r152_54, r152_55, r152_56, r152_57, r152_58, r152_60, r152_62, r152_63, r152_64, r152_67, r152_68, r152_71, r152_72, r152_73, r152_74, r152_77, r152_79, r152_80, r152_81, r152_83, r152_84, r152_86, r152_87, r152_90, r152_91, r152_92, r152_93, r152_96, r152_99, r152_100, r152_101, r152_104, ↓if_pos, ↓if_neg, kill, e1, eu, elv, imul_eq, iadd_eq, ladd_eq, lsub_eq, lmul_eq, Int.zero_mul, Int.add_zero]
theorem m_take (hs : 0 ≤ s ∧ s ≤ 7) (ht : 0 ≤ t ∧ t ≤ 7) (hne : s ≠ t) (hv : RP I s v) (hu : RP I t u) (hle : u ≤ v) : ∃ K, call (d + 2) 152 [vR 70, vI s, vI t] I = some (none, K) ∧ RP K s (v - u) ∧ FrB s I K := by
  have hb := lsz_r (v := v)
  have e0 : bc v u 0 = 0 := by unfold bc; rw [BB_0, Int.emod_one, Int.emod_one]; rfl
  obtain ⟨K, c1, q1, f1⟩ := m_takeL (d := d) hs ht hne hv.1 hu hle (lsz v).toNat 0 I (vR 0) (vR 0) (by omega) FrB.refl hv.2.1 (fun i i0 i1 => by omega) (fun i i0 i1 => hv.2.2 i (by omega) i1)
  refine ⟨K, ?_, q1, f1⟩
  rw [e0] at c1
  rw [← c1, en152]
  clear c1 q1 hv hu
  simp (disch := omega) only [r152_0, r152_1, r152_2, r152_3, r152_7, r152_8, r152_11, r152_12, r152_13, r152_16, r152_17, r152_20, r152_22, r152_23, r152_24, r152_26, r152_27, r152_28, r152_30, r152_31, r152_34, r152_35, r152_36, r152_39, r152_40, r152_43, r152_45, r152_46, r152_47, r152_49, r152_50, r152_51, r152_54, r152_55, r152_56, r152_57, r152_58, r152_60, r152_62, r152_63, r152_64, r152_67, r152_68, r152_71, r152_72, r152_73, r152_74, r152_77, r152_79, r152_80, r152_81, r152_83, r152_84, r152_86, r152_87, r152_90, r152_91, r152_92, r152_93, r152_96, r152_99, r152_100, r152_101, r152_104, kill]
  rfl
theorem hv_s (hv : 0 ≤ v) (k : Nat) : (lmb v (k : Int) + v / BB (k + 1) % 2 * 1073741824) / 2 = lmb (v / 2) (k : Int) ∧ (lmb v (k : Int) + v / BB (k + 1) % 2 * 1073741824) % 2 = v / BB k % 2 := by
  have hP := BB_pos k
  rw [lmb_k, lmb_k, div_s]
  have e : v / 2 / BB k = v / BB k / 2 := by rw [Int.ediv_ediv_of_nonneg (by decide), Int.ediv_ediv_of_nonneg (by omega), Int.mul_comm]
  rw [e]
  generalize v / BB k = D
  omega
theorem m_halveL (hs : 0 ≤ s ∧ s ≤ 7) (hv : 0 ≤ v ∧ v < 1329227995784915872903807060280344576) : ∀ (k : Nat) (J : MM) (w5 w6 : AV), (k : Int) ≤ lsz v → FrB s I J → J 76 s = lsz v → (∀ i : Int, 0 ≤ i → i < (k : Int) → J 75 (64 * s + i) = lmb v i) → (∀ i : Int, (k : Int) ≤ i → i < lsz v → J 75 (64 * s + i) = lmb (v / 2) i) → ∃ K, runs (call (d + 1)) 153 12 [vR 70, vI s, vL (v / BB k % 2), vR 0, vI ((k : Int) - 1), w5, w6] [] J = some (none, K) ∧ RP K s (v / 2) ∧ FrB s I K := by
  have hb := lsz_r (v := v)
  intro k
  induction k with
  | zero =>
    intro J w5 w6 hk hf e1 hlo hhi
    have hv0 : 0 ≤ v / 2 ∧ v / 2 < 1329227995784915872903807060280344576 := by omega
    have hsz := lsz_mono (v := v / 2) (u := v) hv0.1 hv.2 (by omega)
    have hRL : RLm J s (lsz v) (v / 2) := ⟨e1, fun i i0 i1 => hhi i (by omega) i1⟩
    obtain ⟨K, c2, q2, f2⟩ := m_trim (d := d) hv0 hs (m := lsz v) ⟨by omega, by omega⟩ hRL
    refine ⟨K, ?_, q2, hf.trans (fun a i h1 h2 => f2 a i h2)⟩
    clear q2 hRL hlo hhi hv hv0 hf hsz
    simp (disch := omega) only [r153_0, r153_1, r153_2, r153_3, r153_6, r153_7, r153_8, r153_9, r153_10, r153_12, r153_14, r153_17, r153_18, r153_21, r153_23, r153_24, r153_25, r153_27, r153_28, r153_29, r153_30, r153_33, r153_34, r153_35, r153_37, r153_38, r153_41, r153_43, r153_44, r153_45, r153_47, r153_48, r153_50, r153_53, r153_54, r153_55, r153_57, r153_60, r153_61, r153_62, r153_65, r153_68, r153_69, r153_70, r153_73, ↓if_pos, ↓if_neg, kill, e1, c2, Option.bind_some, pushR_n]
  | succ k ih =>
    intro J w5 w6 hk hf e1 hlo hhi
    have elv := hlo k (by omega) (by omega)
    have hlb := lmb_r (v := v) (k : Int)
    have hcb : 0 ≤ v / BB (k + 1) % 2 ∧ v / BB (k + 1) % 2 < 2 := ⟨Int.emod_nonneg _ (by decide), Int.emod_lt_of_pos _ (by decide)⟩
    obtain ⟨s1, s2⟩ := hv_s hv.1 k
    obtain ⟨K, c2, q2, f2⟩ := ih (mset J 75 (64 * s + k) (lmb (v / 2) k)) (vL (lmb v (k : Int) + v / BB (k + 1) % 2 * 1073741824)) (vR 0) (by omega) (hf.trans (FrB.s75 (i := (k : Int)) _ (by omega))) (by rw [mset_at, if_neg (by omega)]; exact e1) (fun i i0 i1 => by rw [mset_at, if_neg (by omega)]; exact hlo i i0 (by omega)) (fun i i0 i1 => by
      by_cases hi : i = k
      · rw [mset_at, if_pos ⟨rfl, by omega⟩, hi]
      · rw [mset_at, if_neg (by omega)]; exact hhi i (by omega) i1)
    refine ⟨K, ?_, q2, f2⟩
    have ek : ((k + 1 : Nat) : Int) - 1 = (k : Int) := by omega
    have ek2 : (k : Int) + -1 = (k : Int) - 1 := by omega
    rw [← c2, ek, ← s2, ← s1, r153_12]
    generalize v / BB (k + 1) % 2 = c at *
    clear ih c2 q2 f2 hlo hhi hv hf s1 s2
    simp (disch := omega) only [r153_0, r153_1, r153_2, r153_3, r153_6, r153_7, r153_8, r153_9, r153_10, r153_14, r153_17, r153_18, r153_21, r153_23, r153_24, r153_25, r153_27, r153_28, r153_29, r153_30, r153_33, r153_34, r153_35, r153_37, r153_38, r153_41, r153_43, r153_44, r153_45, r153_47, r153_48, r153_50, r153_53, r153_54, r153_55, r153_57, r153_60, r153_61, r153_62, r153_65, r153_68, r153_69, r153_70, r153_73, ↓if_pos, ↓if_neg, kill, e1, elv, imul_eq, iadd_eq, ladd_eq, lmul_eq, lrem_pos, ldiv_pos, ek2]
theorem m_halve (hs : 0 ≤ s ∧ s ≤ 7) (hv : RP I s v) : ∃ K, call (d + 2) 153 [vR 70, vI s] I = some (none, K) ∧ RP K s (v / 2) ∧ FrB s I K := by
  have hb := lsz_r (v := v)
  obtain ⟨k, hk⟩ : ∃ k : Nat, lsz v = k := ⟨(lsz v).toNat, by omega⟩
  have h1 := lsz_lt (k := k) hv.1 (by omega)
  have e0 : v / BB k % 2 = 0 := by rw [Int.ediv_eq_zero_of_lt hv.1.1 h1]; rfl
  have e1 := hv.2.1
  obtain ⟨K, c1, q1, f1⟩ := m_halveL (d := d) hs hv.1 k I (vR 0) (vR 0) (by omega) FrB.refl e1 (fun i i0 i1 => hv.2.2 i (by omega) (by omega)) (fun i i0 i1 => by omega)
  refine ⟨K, ?_, q1, f1⟩
  rw [e0] at c1
  rw [hk] at e1
  rw [← c1, en153]
  clear c1 q1 hv h1
  simp (disch := omega) only [r153_0, r153_1, r153_2, r153_3, r153_6, r153_7, r153_8, r153_9, r153_10, r153_14, r153_17, r153_18, r153_21, r153_23, r153_24, r153_25, r153_27, r153_28, r153_29, r153_30, r153_33, r153_34, r153_35, r153_37, r153_38, r153_41, r153_43, r153_44, r153_45, r153_47, r153_48, r153_50, r153_53, r153_54, r153_55, r153_57, r153_60, r153_61, r153_62, r153_65, r153_68, r153_69, r153_70, r153_73, ↓if_pos, ↓if_neg, kill, e1, isub_eq]
theorem m_compareL (hs : 0 ≤ s ∧ s ≤ 7) (ht : 0 ≤ t ∧ t ≤ 7) (hv : RP I s v) (hu : RP I t u) (hl : lsz v = lsz u) : ∀ (k : Nat) (w4 w5 : AV), (k : Int) ≤ lsz v → v / BB k = u / BB k → runs (call d) 150 45 [vR 70, vI s, vI t, vI ((k : Int) - 1), w4, w5] [] I = some (some (vI (cmp v u)), I) := by
  have hb := lsz_r (v := v)
  intro k
  induction k with
  | zero =>
    intro w4 w5 hk he
    rw [BB_0, Int.ediv_one, Int.ediv_one] at he
    have : cmp v u = 0 := by unfold cmp; rw [if_neg (by omega), if_pos he]
    rw [this]
    clear hv hu
    simp (disch := omega) only [r150_0, r150_1, r150_4, r150_5, r150_6, r150_7, r150_10, r150_11, r150_12, r150_15, r150_16, r150_19, r150_20, r150_21, r150_22, r150_25, r150_26, r150_27, r150_30, r150_31, r150_34, r150_35, r150_36, r150_37, r150_40, r150_41, r150_42, r150_43, r150_44, r150_45, r150_46, r150_49, r150_50, r150_53, r150_55, r150_56, r150_57, r150_58, r150_59, r150_60, r150_61, r150_64, r150_66, r150_67, r150_68, r150_69, r150_70, r150_71, r150_72, r150_74, r150_76, r150_77, r150_78, r150_81, r150_83, r150_84, r150_85, r150_88, r150_89, r150_92, r150_93, r150_94, r150_97, r150_100, r150_101, ↓if_pos, ↓if_neg]
  | succ k ih =>
    intro w4 w5 hk he
    have elv := hv.2.2 k (by omega) (by omega)
    have elu := hu.2.2 k (by omega) (by omega)
    have hlb := lmb_r (v := v) (k : Int)
    have hlu := lmb_r (v := u) (k : Int)
    have hP := BB_pos k
    rw [div_s, div_s] at he
    have ek : ((k + 1 : Nat) : Int) - 1 = (k : Int) := by omega
    have ek2 : (k : Int) + -1 = (k : Int) - 1 := by omega
    have hm1 : v / BB k < u / BB k → cmp v u = -1 := fun h => by
      unfold cmp
      rw [if_pos]
      rcases Int.lt_or_le v u with z | z
      · exact z
      · have := Int.ediv_le_ediv hP z; omega
    have hm2 : u / BB k < v / BB k → cmp v u = 1 := fun h => by
      unfold cmp
      have : u < v := by
        rcases Int.lt_or_le u v with z | z
        · exact z
        · have := Int.ediv_le_ediv hP z; omega
      rw [if_neg (by omega), if_neg (by omega)]
    have dv : v / BB k = v / BB k / 1073741824 * 1073741824 + lmb v (k : Int) := by rw [lmb_k]; omega
    have du : u / BB k = u / BB k / 1073741824 * 1073741824 + lmb u (k : Int) := by rw [lmb_k]; omega
    have h3 : v / BB k - u / BB k = lmb v (k : Int) - lmb u (k : Int) := by omega
    clear dv du he
    rw [ek]
    rcases Int.lt_trichotomy (lmb v (k : Int)) (lmb u (k : Int)) with z | z | z
    · rw [hm1 (by omega)]
      clear hm1 hm2 ih hv hu h3
      simp (disch := omega) only [r150_0, r150_1, r150_4, r150_5, r150_6, r150_7, r150_10, r150_11, r150_12, r150_15, r150_16, r150_19, r150_20, r150_21, r150_22, r150_25, r150_26, r150_27, r150_30, r150_31, r150_34, r150_35, r150_36, r150_37, r150_40, r150_41, r150_42, r150_43, r150_44, r150_45, r150_46, r150_49, r150_50, r150_53, r150_55, r150_56, r150_57, r150_58, r150_59, r150_60, r150_61, r150_64, r150_66, r150_67, r150_68, r150_69, r150_70, r150_71, r150_72, r150_74, r150_76, r150_77, r150_78, r150_81, r150_83, r150_84, r150_85, r150_88, r150_89, r150_92, r150_93, r150_94, r150_97, r150_100, r150_101, ↓if_pos, ↓if_neg, kill, elv, elu, imul_eq, iadd_eq, lsub_eq]
    · have := ih (vL (lmb v (k : Int) - lmb u (k : Int))) (vR 0) (by omega) (by omega)
      rw [← this, r150_45]
      clear hm1 hm2 ih hv hu h3 this
      simp (disch := omega) only [r150_0, r150_1, r150_4, r150_5, r150_6, r150_7, r150_10, r150_11, r150_12, r150_15, r150_16, r150_19, r150_20, r150_21, r150_22, r150_25, r150_26, r150_27, r150_30, r150_31, r150_34, r150_35, r150_36, r150_37, r150_40, r150_41, r150_42, r150_43, r150_44, r150_46, r150_49, r150_50, r150_53, r150_55, r150_56, r150_57, r150_58, r150_59, r150_60, r150_61, r150_64, r150_66, r150_67, r150_68, r150_69, r150_70, r150_71, r150_72, r150_74, r150_76, r150_77, r150_78, r150_81, r150_83, r150_84, r150_85, r150_88, r150_89, r150_92, r150_93, r150_94, r150_97, r150_100, r150_101, ↓if_pos, ↓if_neg, kill, elv, elu, imul_eq, iadd_eq, lsub_eq, ek2]
    · rw [hm2 (by omega)]
      clear hm1 hm2 ih hv hu h3
      simp (disch := omega) only [r150_0, r150_1, r150_4, r150_5, r150_6, r150_7, r150_10, r150_11, r150_12, r150_15, r150_16, r150_19, r150_20, r150_21, r150_22, r150_25, r150_26, r150_27, r150_30, r150_31, r150_34, r150_35, r150_36, r150_37, r150_40, r150_41, r150_42, r150_43, r150_44, r150_45, r150_46, r150_49, r150_50, r150_53, r150_55, r150_56, r150_57, r150_58, r150_59, r150_60, r150_61, r150_64, r150_66, r150_67, r150_68, r150_69, r150_70, r150_71, r150_72, r150_74, r150_76, r150_77, r150_78, r150_81, r150_83, r150_84, r150_85, r150_88, r150_89, r150_92, r150_93, r150_94, r150_97, r150_100, r150_101, ↓if_pos, ↓if_neg, kill, elv, elu, imul_eq, iadd_eq, lsub_eq]
theorem m_compare (hs : 0 ≤ s ∧ s ≤ 7) (ht : 0 ≤ t ∧ t ≤ 7) (hv : RP I s v) (hu : RP I t u) : call (d + 1) 150 [vR 70, vI s, vI t] I = some (some (vI (cmp v u)), I) := by
  have hb := lsz_r (v := v)
  have e1 := hv.2.1
  have e2 := hu.2.1
  by_cases hl : lsz v = lsz u
  · obtain ⟨k, hk⟩ : ∃ k : Nat, lsz v = k := ⟨(lsz v).toNat, by omega⟩
    have h1 := lsz_lt (k := k) hv.1 (by omega)
    have h2 := lsz_lt (k := k) hu.1 (by omega)
    have c1 := m_compareL (d := d) hs ht hv hu hl k (vR 0) (vR 0) (by omega) (by rw [Int.ediv_eq_zero_of_lt hv.1.1 h1, Int.ediv_eq_zero_of_lt hu.1.1 h2])
    rw [← c1, en150]
    rw [← hl, hk] at e2
    rw [hk] at e1
    clear c1 hv hu h1 h2
    simp (disch := omega) only [r150_0, r150_1, r150_4, r150_5, r150_6, r150_7, r150_10, r150_11, r150_12, r150_15, r150_16, r150_19, r150_20, r150_21, r150_22, r150_25, r150_26, r150_27, r150_30, r150_31, r150_34, r150_35, r150_36, r150_37, r150_40, r150_41, r150_42, r150_43, r150_44, r150_46, r150_49, r150_50, r150_53, r150_55, r150_56, r150_57, r150_58, r150_59, r150_60, r150_61, r150_64, r150_66, r150_67, r150_68, r150_69, r150_70, r150_71, r150_72, r150_74, r150_76, r150_77, r150_78, r150_81, r150_83, r150_84, r150_85, r150_88, r150_89, r150_92, r150_93, r150_94, r150_97, r150_100, r150_101, ↓if_pos, ↓if_neg, e1, e2, isub_eq]
  · rcases Int.lt_or_le (lsz v) (lsz u) with z | z
    · have hlt : v < u := by
        rcases Int.lt_or_le v u with y | y
        · exact y
        · have := lsz_mono hu.1.1 hv.1.2 y; omega
      rw [en150]
      clear hv hu
      rw [show cmp v u = -1 by unfold cmp; rw [if_pos hlt]]
      simp (disch := omega) only [r150_0, r150_1, r150_4, r150_5, r150_6, r150_7, r150_10, r150_11, r150_12, r150_15, r150_16, r150_19, r150_20, r150_21, r150_22, r150_25, r150_26, r150_27, r150_30, r150_31, r150_34, r150_35, r150_36, r150_37, r150_40, r150_41, r150_42, r150_43, r150_44, r150_46, r150_49, r150_50, r150_53, r150_55, r150_56, r150_57, r150_58, r150_59, r150_60, r150_61, r150_64, r150_66, r150_67, r150_68, r150_69, r150_70, r150_71, r150_72, r150_74, r150_76, r150_77, r150_78, r150_81, r150_83, r150_84, r150_85, r150_88, r150_89, r150_92, r150_93, r150_94, r150_97, r150_100, r150_101, ↓if_pos, ↓if_neg, e1, e2]
    · have hlt : u < v := by
        rcases Int.lt_or_le u v with y | y
        · exact y
        · have := lsz_mono hv.1.1 hu.1.2 y; omega
      rw [en150]
      clear hv hu
      rw [show cmp v u = 1 by unfold cmp; rw [if_neg (by omega), if_neg (by omega)]]
      simp (disch := omega) only [r150_0, r150_1, r150_4, r150_5, r150_6, r150_7, r150_10, r150_11, r150_12, r150_15, r150_16, r150_19, r150_20, r150_21, r150_22, r150_25, r150_26, r150_27, r150_30, r150_31, r150_34, r150_35, r150_36, r150_37, r150_40, r150_41, r150_42, r150_43, r150_44, r150_46, r150_49, r150_50, r150_53, r150_55, r150_56, r150_57, r150_58, r150_59, r150_60, r150_61, r150_64, r150_66, r150_67, r150_68, r150_69, r150_70, r150_71, r150_72, r150_74, r150_76, r150_77, r150_78, r150_81, r150_83, r150_84, r150_85, r150_88, r150_89, r150_92, r150_93, r150_94, r150_97, r150_100, r150_101, ↓if_pos, ↓if_neg, e1, e2]
end
