/-! Numbers of the model: add, take, halve, compare. -/
def bc (v u : Int) (k : Nat) : Int := if v % BB k < u % BB k then 1 else 0
def cmp (v u : Int) : Int := if v < u then -1 else if v = u then 0 else 1
section
variable {d : Nat} {I J K : MM} {v u f s t m n p : Int} {k : Nat}
theorem lsz_mono (hv : 0 ≤ v) (hu : u < 1329227995784915872903807060280344576) (h : v ≤ u) : lsz v ≤ lsz u := by
  have hb := lsz_r (v := u)
  obtain ⟨k, hk⟩ : ∃ k : Nat, lsz u = k := ⟨(lsz u).toNat, by omega⟩
  have h1 := lsz_lt (v := u) (k := k) ⟨by omega, hu⟩ (by omega)
  have h2 := lsz_le (k := k) hv (by omega) (by omega)
  omega
theorem m_addL (hs : 0 ≤ s ∧ s ≤ 7) (ht : 0 ≤ t ∧ t ≤ 7) (hne : s ≠ t) (hv : 0 ≤ v ∧ v < 1329227995784915872903807060280344576) (hu : RP I t u) (hw : v + u < 1329227995784915872903807060280344576) (hm : lsz v ≤ m ∧ lsz u ≤ m ∧ m ≤ 4) : ∀ (g k : Nat) (J : MM) (w7 w8 : AV), (k : Int) + g = m → FrB s I J → J 76 s = lsz v → (∀ i : Int, 0 ≤ i → i < (k : Int) → J 75 (64 * s + i) = lmb (v + u) i) → (∀ i : Int, (k : Int) ≤ i → i < lsz v → J 75 (64 * s + i) = lmb v i) → ∃ K, runs (call (d + 1)) 151 37 [vR 70, vI s, vI t, vL (ac v u k), vR 0, vI m, vI k, w7, w8] [] J = some (none, K) ∧ RP K s (v + u) ∧ FrB s I K := by
  have hb := lsz_r (v := v)
  have hbu := lsz_r (v := u)
  intro g
  induction g with
  | zero =>
    intro k J w7 w8 hk hf e1 hlo hhi
    have hk' : m = k := by omega
    have h1 := lsz_lt (k := k) hv (by omega)
    have h2 := lsz_lt (k := k) hu.1 (by omega)
    have hP := BB_pos k
    have hac : ac v u k = (v + u) / BB k := by unfold ac; rw [Int.emod_eq_of_lt hv.1 h1, Int.emod_eq_of_lt hu.1.1 h2]
    have hab := ac_b (v := v) (u := u) (k := k)
    have hlk : lmb (v + u) (k : Int) = ac v u k := by rw [lmb_k, ← hac]; omega
    have hv0 : 0 ≤ v + u := by have := hv.1; have := hu.1.1; omega
    have hsz : lsz (v + u) ≤ (k : Int) + 1 := by
      by_cases h4 : k ≤ 3
      · exact_mod_cast lsz_le (k := k + 1) hv0 (by rw [BB_s]; omega) (by omega)
      · have := lsz_r (v := v + u); omega
    have hRL : RLm (mset (mset J 75 (64 * s + k) (ac v u k)) 76 s ((k : Int) + 1)) s ((k : Int) + 1) (v + u) := ⟨by rw [mset_at, if_pos ⟨rfl, rfl⟩], fun i i0 i1 => by
      rw [mset_at, if_neg (by omega)]
      by_cases hi : i = k
      · rw [mset_at, if_pos ⟨rfl, by omega⟩, hi, hlk]
      · rw [mset_at, if_neg (by omega)]; exact hlo i i0 (by omega)⟩
    obtain ⟨K, c2, q2, f2⟩ := m_trim (d := d) ⟨hv0, hw⟩ hs (m := (k : Int) + 1) ⟨hsz, by omega⟩ hRL
    refine ⟨K, ?_, q2, (hf.trans ((FrB.s75 (i := (k : Int)) _ (by omega)).trans (FrB.s76 _))).trans (fun a i h1 h2 => f2 a i h2)⟩
    rw [hk']
    clear q2 hRL hlo hhi hv hw hu h1 h2 hv0 hac hlk hf hsz
    simp (disch := omega) only [r151_0, r151_1, r151_2, r151_3, r151_6, r151_7, r151_8, r151_9, r151_12, r151_13, r151_14, r151_17, r151_18, r151_21, r151_22, r151_23, r151_26, r151_27, r151_30, r151_31, r151_32, r151_34, r151_35, r151_37, r151_39, r151_41, r151_44, r151_46, r151_47, r151_50, r151_51, r151_52, r151_55, r151_56, r151_59, r151_61, r151_62, r151_63, r151_65, r151_66, r151_67, r151_70, r151_71, r151_73, r151_74, r151_77, r151_78, r151_79, r151_82, r151_83, r151_86, r151_88, r151_89, r151_90, r151_92, r151_93, r151_94, r151_97, r151_98, r151_99, r151_100, r151_101, r151_103, r151_104, r151_107, r151_109, r151_110, r151_111, r151_113, r151_114, r151_116, r151_119, r151_120, r151_121, r151_123, r151_126, r151_127, r151_128, r151_131, r151_134, r151_135, r151_138, r151_140, r151_141, r151_142, r151_144, r151_145, r151_146, r151_147, r151_148, r151_151, r151_152, r151_154, r151_155, r151_156, r151_157, r151_158, r151_159, r151_162, ↓if_pos, ↓if_neg, e1, imul_eq, iadd_eq, c2, Option.bind_some, pushR_n]
  | succ g ih =>
    intro k J w7 w8 hk hf e1 hlo hhi
    have eu : J 76 t = lsz u := (hf 76 t (by omega) (by omega)).trans hu.2.1
    have hab := ac_b (v := v) (u := u) (k := k)
    have hlb := lmb_r (v := v) (k : Int)
    have hlu := lmb_r (v := u) (k : Int)
    obtain ⟨s1, s2⟩ := ac_s v u k
    obtain ⟨K, c2, q2, f2⟩ := ih (k + 1) (mset J 75 (64 * s + k) (lmb (v + u) k)) (vL (lmb v (k : Int) + lmb u (k : Int) + ac v u k)) (vR 0) (by omega) (hf.trans (FrB.s75 (i := (k : Int)) _ (by omega))) (by rw [mset_at, if_neg (by omega)]; exact e1) (fun i i0 i1 => by
      by_cases hi : i = k
      · rw [mset_at, if_pos ⟨rfl, by omega⟩, hi]
      · rw [mset_at, if_neg (by omega)]; exact hlo i i0 (by omega)) (fun i i0 i1 => by rw [mset_at, if_neg (by omega)]; exact hhi i (by omega) i1)
    refine ⟨K, ?_, q2, f2⟩
    have ek : ((k + 1 : Nat) : Int) = (k : Int) + 1 := by omega
    rw [← c2, ek, ← s2, ← s1, r151_37]
    have hvk : (k : Int) < lsz v ∨ lmb v (k : Int) = 0 := by
      rcases Int.lt_or_le (k : Int) (lsz v) with z | z
      · exact Or.inl z
      · exact Or.inr (lmb_hi hv z)
    have huk : (k : Int) < lsz u ∨ lmb u (k : Int) = 0 := by
      rcases Int.lt_or_le (k : Int) (lsz u) with z | z
      · exact Or.inl z
      · exact Or.inr (lmb_hi hu.1 z)
    have elv := hhi k (Int.le_refl _)
    have elu : (k : Int) < lsz u → J 75 (64 * t + k) = lmb u (k : Int) := fun z => (hf 75 _ (by omega) (by omega)).trans (hu.2.2 k (by omega) z)
    clear ih c2 q2 f2 hlo hhi s1 s2 hv hw hf hu
    by_cases z1 : (k : Int) < lsz v
    · have elv := elv z1
      clear hvk
      by_cases z2 : (k : Int) < lsz u
      · have elu := elu z2
        clear huk
        simp (disch := omega) only [r151_0, r151_1, r151_2, r151_3, r151_6, r151_7, r151_8, r151_9, r151_12, r151_13, r151_14, r151_17, r151_18, r151_21, r151_22, r151_23, r151_26, r151_27, r151_30, r151_31, r151_32, r151_34, r151_35, r151_39, r151_41, r151_44, r151_46, r151_47, r151_50, r151_51, r151_52, r151_55, r151_56, r151_59, r151_61, r151_62, r151_63, r151_65, r151_66, r151_67, r151_70, r151_71, r151_73, r151_74, r151_77, r151_78, r151_79, r151_82, r151_83, r151_86, r151_88, r151_89, r151_90, r151_92, r151_93, r151_94, r151_97, r151_98, r151_99, r151_100, r151_101, r151_103, r151_104, r151_107, r151_109, r151_110, r151_111, r151_113, r151_114, r151_116, r151_119, r151_120, r151_121, r151_123, r151_126, r151_127, r151_128, r151_131, r151_134, r151_135, r151_138, r151_140, r151_141, r151_142, r151_144, r151_145, r151_146, r151_147, r151_148, r151_151, r151_152, r151_154, r151_155, r151_156, r151_157, r151_158, r151_159, r151_162, ↓if_pos, ↓if_neg, kill, e1, eu, elv, elu, imul_eq, iadd_eq, ladd_eq, lrem_pos, ldiv_pos]
      · have h0 : lmb u (k : Int) = 0 := huk.resolve_left z2
        clear huk elu
        rw [h0]
        rw [h0] at hlu
        simp (disch := omega) only [r151_0, r151_1, r151_2, r151_3, r151_6, r151_7, r151_8, r151_9, r151_12, r151_13, r151_14, r151_17, r151_18, r151_21, r151_22, r151_23, r151_26, r151_27, r151_30, r151_31, r151_32, r151_34, r151_35, r151_39, r151_41, r151_44, r151_46, r151_47, r151_50, r151_51, r151_52, r151_55, r151_56, r151_59, r151_61, r151_62, r151_63, r151_65, r151_66, r151_67, r151_70, r151_71, r151_73, r151_74, r151_77, r151_78, r151_79, r151_82, r151_83, r151_86, r151_88, r151_89, r151_90, r151_92, r151_93, r151_94, r151_97, r151_98, r151_99, r151_100, r151_101, r151_103, r151_104, r151_107, r151_109, r151_110, r151_111, r151_113, r151_114, r151_116, r151_119, r151_120, r151_121, r151_123, r151_126, r151_127, r151_128, r151_131, r151_134, r151_135, r151_138, r151_140, r151_141, r151_142, r151_144, r151_145, r151_146, r151_147, r151_148, r151_151, r151_152, r151_154, r151_155, r151_156, r151_157, r151_158, r151_159, r151_162, ↓if_pos, ↓if_neg, kill, e1, eu, elv, imul_eq, iadd_eq, ladd_eq, lrem_pos, ldiv_pos]
    · have h0 : lmb v (k : Int) = 0 := hvk.resolve_left z1
      clear hvk elv
      rw [h0]
      rw [h0] at hlb
      by_cases z2 : (k : Int) < lsz u
      · have elu := elu z2
        clear huk
        simp (disch := omega) only [r151_0, r151_1, r151_2, r151_3, r151_6, r151_7, r151_8, r151_9, r151_12, r151_13, r151_14, r151_17, r151_18, r151_21, r151_22, r151_23, r151_26, r151_27, r151_30, r151_31, r151_32, r151_34, r151_35, r151_39, r151_41, r151_44, r151_46, r151_47, r151_50, r151_51, r151_52, r151_55, r151_56, r151_59, r151_61, r151_62, r151_63, r151_65, r151_66, r151_67, r151_70, r151_71, r151_73, r151_74, r151_77, r151_78, r151_79, r151_82, r151_83, r151_86, r151_88, r151_89, r151_90, r151_92, r151_93, r151_94, r151_97, r151_98, r151_99, r151_100, r151_101, r151_103, r151_104, r151_107, r151_109, r151_110, r151_111, r151_113, r151_114, r151_116, r151_119, r151_120, r151_121, r151_123, r151_126, r151_127, r151_128, r151_131, r151_134, r151_135, r151_138, r151_140, r151_141, r151_142, r151_144, r151_145, r151_146, r151_147, r151_148, r151_151, r151_152, r151_154, r151_155, r151_156, r151_157, r151_158, r151_159, r151_162, ↓if_pos, ↓if_neg, kill, e1, eu, elu, imul_eq, iadd_eq, ladd_eq, lrem_pos, ldiv_pos]
      · have h00 : lmb u (k : Int) = 0 := huk.resolve_left z2
        clear huk elu
        rw [h00]
        rw [h00] at hlu
        simp (disch := omega) only [r151_0, r151_1, r151_2, r151_3, r151_6, r151_7, r151_8, r151_9, r151_12, r151_13, r151_14, r151_17, r151_18, r151_21, r151_22, r151_23, r151_26, r151_27, r151_30, r151_31, r151_32, r151_34, r151_35, r151_39, r151_41, r151_44, r151_46, r151_47, r151_50, r151_51, r151_52, r151_55, r151_56, r151_59, r151_61, r151_62, r151_63, r151_65, r151_66, r151_67, r151_70, r151_71, r151_73, r151_74, r151_77, r151_78, r151_79, r151_82, r151_83, r151_86, r151_88, r151_89, r151_90, r151_92, r151_93, r151_94, r151_97, r151_98, r151_99, r151_100, r151_101, r151_103, r151_104, r151_107, r151_109, r151_110, r151_111, r151_113, r151_114, r151_116, r151_119, r151_120, r151_121, r151_123, r151_126, r151_127, r151_128, r151_131, r151_134, r151_135, r151_138, r151_140, r151_141, r151_142, r151_144, r151_145, r151_146, r151_147, r151_148, r151_151, r151_152, r151_154, r151_155, r151_156, r151_157, r151_158, r151_159, r151_162, ↓if_pos, ↓if_neg, kill, e1, eu, imul_eq, iadd_eq, ladd_eq, lrem_pos, ldiv_pos]
theorem m_add (hs : 0 ≤ s ∧ s ≤ 7) (ht : 0 ≤ t ∧ t ≤ 7) (hne : s ≠ t) (hv : RP I s v) (hu : RP I t u) (hw : v + u < 1329227995784915872903807060280344576) : ∃ K, call (d + 2) 151 [vR 70, vI s, vI t] I = some (none, K) ∧ RP K s (v + u) ∧ FrB s I K := by
  have hb := lsz_r (v := v)
  have hbu := lsz_r (v := u)
  have e1 := hv.2.1
  have e2 := hu.2.1
  have e0 : ac v u 0 = 0 := by unfold ac; rw [BB_0, Int.emod_one, Int.emod_one]; rfl
  by_cases h : lsz u < lsz v
  · obtain ⟨K, c1, q1, f1⟩ := m_addL (d := d) (m := lsz v) hs ht hne hv.1 hu hw (by omega) (lsz v).toNat 0 I (vR 0) (vR 0) (by omega) FrB.refl e1 (fun i i0 i1 => by omega) (fun i i0 i1 => hv.2.2 i (by omega) i1)
    refine ⟨K, ?_, q1, f1⟩
    rw [e0] at c1
    rw [← c1, en151]
    clear c1 q1 hv hu
    simp (disch := omega) only [r151_0, r151_1, r151_2, r151_3, r151_6, r151_7, r151_8, r151_9, r151_12, r151_13, r151_14, r151_17, r151_18, r151_21, r151_22, r151_23, r151_26, r151_27, r151_30, r151_31, r151_32, r151_34, r151_35, r151_39, r151_41, r151_44, r151_46, r151_47, r151_50, r151_51, r151_52, r151_55, r151_56, r151_59, r151_61, r151_62, r151_63, r151_65, r151_66, r151_67, r151_70, r151_71, r151_73, r151_74, r151_77, r151_78, r151_79, r151_82, r151_83, r151_86, r151_88, r151_89, r151_90, r151_92, r151_93, r151_94, r151_97, r151_98, r151_99, r151_100, r151_101, r151_103, r151_104, r151_107, r151_109, r151_110, r151_111, r151_113, r151_114, r151_116, r151_119, r151_120, r151_121, r151_123, r151_126, r151_127, r151_128, r151_131, r151_134, r151_135, r151_138, r151_140, r151_141, r151_142, r151_144, r151_145, r151_146, r151_147, r151_148, r151_151, r151_152, r151_154, r151_155, r151_156, r151_157, r151_158, r151_159, r151_162, ↓if_pos, ↓if_neg, kill, e1, e2]
    rfl
  · obtain ⟨K, c1, q1, f1⟩ := m_addL (d := d) (m := lsz u) hs ht hne hv.1 hu hw (by omega) (lsz u).toNat 0 I (vR 0) (vR 0) (by omega) FrB.refl e1 (fun i i0 i1 => by omega) (fun i i0 i1 => hv.2.2 i (by omega) i1)
    refine ⟨K, ?_, q1, f1⟩
    rw [e0] at c1
    rw [← c1, en151]
    clear c1 q1 hv hu
    simp (disch := omega) only [r151_0, r151_1, r151_2, r151_3, r151_6, r151_7, r151_8, r151_9, r151_12, r151_13, r151_14, r151_17, r151_18, r151_21, r151_22, r151_23, r151_26, r151_27, r151_30, r151_31, r151_32, r151_34, r151_35, r151_39, r151_41, r151_44, r151_46, r151_47, r151_50, r151_51, r151_52, r151_55, r151_56, r151_59, r151_61, r151_62, r151_63, r151_65, r151_66, r151_67, r151_70, r151_71, r151_73, r151_74, r151_77, r151_78, r151_79, r151_82, r151_83, r151_86, r151_88, r151_89, r151_90, r151_92, r151_93, r151_94, r151_97, r151_98, r151_99, r151_100, r151_101, r151_103, r151_104, r151_107, r151_109, r151_110, r151_111, r151_113, r151_114, r151_116, r151_119, r151_120, r151_121, r151_123, r151_126, r151_127, r151_128, r151_131, r151_134, r151_135, r151_138, r151_140, r151_141, r151_142, r151_144, r151_145, r151_146, r151_147, r151_148, r151_151, r151_152, r151_154, r151_155, r151_156, r151_157, r151_158, r151_159, r151_162, ↓if_pos, ↓if_neg, kill, e1, e2]
    rfl
theorem bc_s (v u : Int) (k : Nat) : (0 ≤ lmb v (k : Int) - lmb u (k : Int) - bc v u k → lmb (v - u) (k : Int) = lmb v (k : Int) - lmb u (k : Int) - bc v u k ∧ bc v u (k + 1) = 0) ∧ (lmb v (k : Int) - lmb u (k : Int) - bc v u k < 0 → lmb (v - u) (k : Int) = lmb v (k : Int) - lmb u (k : Int) - bc v u k + 1073741824 ∧ bc v u (k + 1) = 1) := by
  have hP := BB_pos k
  have hne : BB k ≠ 0 := by omega
  have h1 := Int.emod_add_mul_ediv v (BB k)
  have h2 := Int.emod_add_mul_ediv u (BB k)
  have a1 := Int.emod_nonneg v hne
  have a2 := Int.emod_lt_of_pos v hP
  have a3 := Int.emod_nonneg u hne
  have a4 := Int.emod_lt_of_pos u hP
  have e : (v - u) / BB k = v / BB k - u / BB k - bc v u k := by
    unfold bc
    by_cases hc : v % BB k < u % BB k
    · rw [if_pos hc]
      have : v - u = (v % BB k - u % BB k + BB k) + BB k * (v / BB k - u / BB k - 1) := by rw [Int.mul_sub, Int.mul_sub, Int.mul_one]; omega
      rw [this, Int.add_mul_ediv_left _ _ hne, Int.ediv_eq_zero_of_lt (by omega) (by omega), Int.zero_add]
    · rw [if_neg hc]
      have : v - u = (v % BB k - u % BB k) + BB k * (v / BB k - u / BB k) := by rw [Int.mul_sub]; omega
      rw [this, Int.add_mul_ediv_left _ _ hne, Int.ediv_eq_zero_of_lt (by omega) (by omega)]
      omega
  have hl : lmb (v - u) (k : Int) = (v / BB k - u / BB k - bc v u k) % 1073741824 := by rw [lmb_k, e]
  have hbc : bc v u k = 0 ∨ bc v u k = 1 := by unfold bc; split <;> omega
  have hn : bc v u (k + 1) = if v / BB k % 1073741824 * BB k + v % BB k < u / BB k % 1073741824 * BB k + u % BB k then 1 else 0 := by unfold bc; rw [mod_s, mod_s]
  have hcmp : (v / BB k % 1073741824 * BB k + v % BB k < u / BB k % 1073741824 * BB k + u % BB k) ↔ v / BB k % 1073741824 - u / BB k % 1073741824 - bc v u k < 0 := by
    clear hl hn e h1 h2
    unfold bc
    generalize v / BB k % 1073741824 = D at *
    generalize u / BB k % 1073741824 = E at *
    generalize v % BB k = r at *
    generalize u % BB k = q at *
    generalize BB k = P at *
    rcases Int.lt_trichotomy D E with z | z | z
    · have h : (D + 1) * P ≤ E * P := Int.mul_le_mul_of_nonneg_right (by omega) (by omega)
      rw [Int.add_mul, Int.one_mul] at h
      constructor
      · intro _; split <;> omega
      · intro _; omega
    · subst z
      by_cases hc : r < q
      · rw [if_pos hc]; omega
      · rw [if_neg hc]; omega
    · have h : (E + 1) * P ≤ D * P := Int.mul_le_mul_of_nonneg_right (by omega) (by omega)
      rw [Int.add_mul, Int.one_mul] at h
      constructor
      · intro _; omega
      · intro y; split at y <;> omega
  rw [hl, hn, lmb_k, lmb_k]
  clear hl hn e h1 h2 a1 a2 a3 a4
  constructor
  · intro h
    rw [if_neg (fun z => by have := hcmp.mp z; omega)]
    refine ⟨?_, rfl⟩
    clear hcmp
    omega
  · intro h
    rw [if_pos (hcmp.mpr h)]
    refine ⟨?_, rfl⟩
    clear hcmp
    omega
end
