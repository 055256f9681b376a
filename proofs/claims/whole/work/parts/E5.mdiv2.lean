/-! Numbers of the model: division by any number, limb by limb. -/
def FrSl (l : List Int) (I J : MM) : Prop := ∀ a i, (∀ s, s ∈ l → ¬ (a = 75 ∧ 64 * s ≤ i ∧ i < 64 * s + 64) ∧ ¬ (a = 76 ∧ i = s)) → J a i = I a i
section
variable {d : Nat} {I J K : MM} {v u f s t m n p G h X : Int} {k : Nat} {l l2 : List Int}
theorem FrB.q (h : FrB s I J) (hs : s ∈ l) : FrSl l I J := fun a i hh => h a i (hh s hs).1 (hh s hs).2
theorem FrSl.trans (f : FrSl l I J) (f' : FrSl l J K) : FrSl l I K := fun a i h => (f' a i h).trans (f a i h)
theorem FrSl.sub (f : FrSl l I J) (h : ∀ s, s ∈ l → s ∈ l2) : FrSl l2 I J := fun a i hh => f a i (fun s hs => hh s (h s hs))
theorem FrSl.refl : FrSl l I I := fun _ _ _ => rfl
theorem RP.frq (h : RP I t v) (f : FrSl l I J) (hs : t ∉ l) : RP J t v := by
  have hb := lsz_r (v := v)
  refine ⟨h.1, h.2.cong (f 76 t (fun s hm => ⟨by omega, fun z => hs (by rw [z.2]; exact hm)⟩)) (fun i i0 i1 => f 75 i (fun s hm => ⟨fun z => ?_, by omega⟩)) (by omega)⟩
  have : t = s := by omega
  exact hs (by rw [this]; exact hm)
theorem FrSl.o (f : FrSl l I J) {a : Nat} {i : Int} (h : a ≠ 75) (h' : a ≠ 76) : J a i = I a i := f a i (fun s _ => ⟨by omega, by omega⟩)
theorem dv_s (hG : 0 < G) (A : Int) {l : Int} (hl : 0 ≤ l ∧ l < 1073741824) : (A % G * 1073741824 + l) / G = (A * 1073741824 + l) / G % 1073741824 ∧ (A % G * 1073741824 + l) % G = (A * 1073741824 + l) % G := by
  have hne : G ≠ 0 := by omega
  have h1 := Int.emod_add_mul_ediv A G
  have a1 := Int.emod_nonneg A hne
  have a2 := Int.emod_lt_of_pos A hG
  have e : A * 1073741824 + l = (A % G * 1073741824 + l) + G * (A / G * 1073741824) := by
    rw [← Int.mul_assoc]
    generalize G * (A / G) = W at *
    omega
  have hb : 0 ≤ (A % G * 1073741824 + l) / G ∧ (A % G * 1073741824 + l) / G < 1073741824 := ⟨Int.ediv_nonneg (by omega) (by omega), Int.ediv_lt_of_lt_mul hG (by omega)⟩
  constructor
  · rw [e, Int.add_mul_ediv_left _ _ hne]
    rw [Int.add_mul_emod_self_right, Int.emod_eq_of_lt hb.1 hb.2]
  · rw [e, Int.add_mul_emod_self_left]
theorem m_divZ (hs : 0 ≤ s ∧ s ≤ 3) (hm : m ≤ 4) : ∀ (g : Nat) (i : Int) (J : MM) (w4 w5 w6 : AV), 0 ≤ i → i + g = m → FrB s I J → J 76 s = I 76 s → ∃ K, runs (call d) 156 23 [vR 70, vI s, vI m, vI i, w4, w5, w6] [] J = runs (call d) 156 46 [vR 70, vI s, vI m, vI m, w4, w5, w6] [] K ∧ FrB s I K ∧ K 76 s = I 76 s := by
  intro g
  induction g with
  | zero =>
    intro i J w4 w5 w6 i0 hi hf he
    have : i = m := by omega
    subst this
    refine ⟨J, ?_, hf, he⟩
    clear hf he
    simp (disch := omega) only [r156_0, r156_1, r156_3, r156_4, r156_7, r156_8, r156_9, r156_10, r156_13, r156_14, r156_17, r156_19, r156_20, r156_21, r156_22, r156_23, r156_24, r156_25, r156_28, r156_29, r156_32, r156_34, r156_35, r156_36, r156_37, r156_38, r156_39, r156_40, r156_43, r156_47, r156_48, r156_49, r156_50, r156_51, r156_54, r156_55, r156_57, r156_59, r156_61, r156_63, r156_66, r156_67, r156_68, r156_71, r156_74, r156_75, r156_78, r156_81, r156_82, r156_83, r156_84, r156_86, r156_87, r156_88, r156_89, r156_90, r156_91, r156_94, r156_95, r156_98, r156_101, r156_103, r156_104, r156_106, r156_107, r156_108, r156_109, r156_112, r156_115, r156_116, r156_117, r156_118, r156_121, r156_123, r156_124, r156_125, r156_127, r156_130, r156_133, r156_134, r156_137, r156_139, r156_140, r156_141, r156_142, r156_143, r156_145, r156_146, r156_149, r156_152, r156_153, r156_154, r156_157, ↓if_pos, ↓if_neg]
  | succ g ih =>
    intro i J w4 w5 w6 i0 hi hf he
    obtain ⟨K, c2, f2, e2⟩ := ih (i + 1) (mset J 75 (64 * s + i) 0) w4 w5 w6 (by omega) (by omega) (hf.trans (FrB.s75 _ (by omega))) (by rw [mset_at, if_neg (by omega)]; exact he)
    refine ⟨K, ?_, f2, e2⟩
    rw [← c2, r156_23]
    clear ih c2 f2 e2 hf he
    simp (disch := omega) only [r156_0, r156_1, r156_3, r156_4, r156_7, r156_8, r156_9, r156_10, r156_13, r156_14, r156_17, r156_19, r156_20, r156_21, r156_22, r156_24, r156_25, r156_28, r156_29, r156_32, r156_34, r156_35, r156_36, r156_37, r156_38, r156_39, r156_40, r156_43, r156_47, r156_48, r156_49, r156_50, r156_51, r156_54, r156_55, r156_57, r156_59, r156_61, r156_63, r156_66, r156_67, r156_68, r156_71, r156_74, r156_75, r156_78, r156_81, r156_82, r156_83, r156_84, r156_86, r156_87, r156_88, r156_89, r156_90, r156_91, r156_94, r156_95, r156_98, r156_101, r156_103, r156_104, r156_106, r156_107, r156_108, r156_109, r156_112, r156_115, r156_116, r156_117, r156_118, r156_121, r156_123, r156_124, r156_125, r156_127, r156_130, r156_133, r156_134, r156_137, r156_139, r156_140, r156_141, r156_142, r156_143, r156_145, r156_146, r156_149, r156_152, r156_153, r156_154, r156_157, ↓if_pos, ↓if_neg, imul_eq, iadd_eq]
theorem m_divL (hs : 0 ≤ s ∧ s ≤ 3) (hv : 0 ≤ v ∧ v < 1329227995784915872903807060280344576) (hG0 : 0 < G) (h2G : 2 * G < 1329227995784915872903807060280344576) (hG : RP I 4 G) (hT : RP I 6 v) : ∀ (k : Nat) (J : MM) (w4 w5 w6 : AV), (k : Int) ≤ lsz v → FrSl [s, 5] I J → J 76 s = lsz v → RP J 5 (v / BB k % G) → (∀ i : Int, (k : Int) ≤ i → i < lsz v → J 75 (64 * s + i) = lmb (v / G) i) → ∃ K, runs (call (d + 2)) 156 50 [vR 70, vI s, vI m, vI ((k : Int) - 1), w4, w5, w6] [] J = some (none, K) ∧ RP K s (v / G) ∧ FrSl [s, 5] I K := by
  have hb := lsz_r (v := v)
  have hvG : 0 ≤ v / G ∧ v / G ≤ v := ⟨Int.ediv_nonneg hv.1 (by omega), Int.ediv_le_self _ hv.1⟩
  intro k
  induction k with
  | zero =>
    intro J w4 w5 w6 hk hf e1 hr hhi
    have hsz := lsz_mono (v := v / G) (u := v) hvG.1 hv.2 hvG.2
    have hRL : RLm J s (lsz v) (v / G) := ⟨e1, fun i i0 i1 => hhi i (by omega) i1⟩
    obtain ⟨K, c2, q2, f2⟩ := m_trim (d := d + 1) (v := v / G) (by omega) (s := s) (by omega) (m := lsz v) ⟨by omega, by omega⟩ hRL
    refine ⟨K, ?_, q2, hf.trans (fun a i h => f2 a i (h s (List.mem_cons_self ..)).2)⟩
    clear q2 hRL hhi hv hvG hf hsz hr hG hT
    simp (disch := omega) only [r156_0, r156_1, r156_3, r156_4, r156_7, r156_8, r156_9, r156_10, r156_13, r156_14, r156_17, r156_19, r156_20, r156_21, r156_22, r156_23, r156_24, r156_25, r156_28, r156_29, r156_32, r156_34, r156_35, r156_36, r156_37, r156_38, r156_39, r156_40, r156_43, r156_46, r156_47, r156_48, r156_49, r156_50, r156_51, r156_54, r156_55, r156_57, r156_59, r156_61, r156_63, r156_66, r156_67, r156_68, r156_71, r156_74, r156_75, r156_78, r156_81, r156_82, r156_83, r156_84, r156_86, r156_87, r156_88, r156_89, r156_90, r156_91, r156_94, r156_95, r156_98, r156_101, r156_103, r156_104, r156_106, r156_107, r156_108, r156_109, r156_112, r156_115, r156_116, r156_117, r156_118, r156_121, r156_123, r156_124, r156_125, r156_127, r156_130, r156_133, r156_134, r156_137, r156_139, r156_140, r156_141, r156_142, r156_143, r156_145, r156_146, r156_149, r156_152, r156_153, r156_154, r156_157, ↓if_pos, ↓if_neg, c2, Option.bind_some, pushR_n]
  | succ k ih =>
    intro J w4 w5 w6 hk hf e1 hr hhi
    have hlb := lmb_r (v := v) (k : Int)
    have hx : 0 ≤ v / BB (k + 1) % G ∧ v / BB (k + 1) % G < G := ⟨Int.emod_nonneg _ (by omega), Int.emod_lt_of_pos _ hG0⟩
    have hGJ : RP J 4 G := hG.frq hf (by simp; omega)
    have hTJ : RP J 6 v := hT.frq hf (by simp; omega)
    obtain ⟨K1, c1, r1, f1⟩ := m_divB (d := d) (I := J) (s := s) (m := m) (v := v) (k := k) (G := G) (X := v / BB (k + 1) % G) (by omega) hx h2G hGJ hTJ 30 J (v / BB (k + 1) % G) (by omega) FrB.refl (by rw [Int.emod_eq_of_lt hx.1 hx.2]; exact hr) hx.1 (by rw [show (2 : Int) ^ 30 = 1073741824 by decide, Int.emod_eq_of_lt hlb.1 hlb.2])
    obtain ⟨d1, d2⟩ := dv_s hG0 (v / BB (k + 1)) hlb
    have eD : v / BB (k + 1) * 1073741824 + lmb v (k : Int) = v / BB k := by rw [div_s, lmb_k]; omega
    rw [eD] at d1 d2
    have hPk := BB_pos k
    have eq : v / BB k / G % 1073741824 = lmb (v / G) (k : Int) := by rw [lmb_k, Int.ediv_ediv_of_nonneg (by omega), Int.mul_comm, ← Int.ediv_ediv_of_nonneg (by omega)]
    rw [eq] at d1
    rw [d1] at c1
    rw [d2] at r1
    have hfK : FrSl [s, 5] I (mset K1 75 (64 * s + k) (lmb (v / G) k)) := hf.trans ((f1.q (List.mem_cons_of_mem _ (List.mem_cons_self ..))).trans ((FrB.s75 (i := (k : Int)) _ (by omega)).q (List.mem_cons_self ..)))
    obtain ⟨K, c2, q2, f2⟩ := ih (mset K1 75 (64 * s + k) (lmb (v / G) k)) (vL (lmb (v / G) (k : Int))) (vR 0) (vI (-1)) (by omega) hfK (by rw [mset_at, if_neg (by omega), f1 76 s (by omega) (by omega)]; exact e1) (r1.fr (FrB.s75 (s := s) (i := (k : Int)) _ (by omega)) (by omega)) (fun i i0 i1 => by
      by_cases hi : i = k
      · rw [mset_at, if_pos ⟨rfl, by omega⟩, hi]
      · rw [mset_at, if_neg (by omega), f1 75 _ (by omega) (by omega)]; exact hhi i (by omega) i1)
    refine ⟨K, ?_, q2, f2⟩
    have ek : ((k + 1 : Nat) : Int) - 1 = (k : Int) := by omega
    have ek2 : (k : Int) + -1 = (k : Int) - 1 := by omega
    have ez : v / BB (k + 1) % G / G = 0 := Int.ediv_eq_zero_of_lt hx.1 hx.2
    rw [ez, show ((30 : Nat) : Int) - 1 = 29 by decide] at c1
    have c3 : runs (call (d + 2)) 156 50 [vR 70, vI s, vI m, vI (((k + 1 : Nat) : Int) - 1), w4, w5, w6] [] J = runs (call (d + 2)) 156 61 [vR 70, vI s, vI m, vI k, vL 0, vR 0, vI 29] [] J := by
      rw [ek]
      clear ih c1 c2 q2 f2 hfK r1 f1 hhi hf e1 hr hGJ hTJ hG hT d1 d2 eq eD
      simp (disch := omega) only [r156_0, r156_1, r156_3, r156_4, r156_7, r156_8, r156_9, r156_10, r156_13, r156_14, r156_17, r156_19, r156_20, r156_21, r156_22, r156_23, r156_24, r156_25, r156_28, r156_29, r156_32, r156_34, r156_35, r156_36, r156_37, r156_38, r156_39, r156_40, r156_43, r156_46, r156_47, r156_48, r156_49, r156_50, r156_51, r156_54, r156_55, r156_57, r156_59, r156_63, r156_66, r156_67, r156_68, r156_71, r156_74, r156_75, r156_78, r156_81, r156_82, r156_83, r156_84, r156_86, r156_87, r156_88, r156_89, r156_90, r156_91, r156_94, r156_95, r156_98, r156_101, r156_103, r156_104, r156_106, r156_107, r156_108, r156_109, r156_112, r156_115, r156_116, r156_117, r156_118, r156_121, r156_123, r156_124, r156_125, r156_127, r156_130, r156_134, r156_137, r156_139, r156_140, r156_141, r156_142, r156_143, r156_145, r156_146, r156_149, r156_152, r156_153, r156_154, r156_157, ↓if_pos, ↓if_neg, kill]
    rw [c3, c1, ← c2]
    clear ih c1 c2 c3 q2 f2 hfK r1 f1 hhi hf e1 hr hGJ hTJ hG hT d1 d2 eq eD
    simp (disch := omega) only [r156_0, r156_1, r156_3, r156_4, r156_7, r156_8, r156_9, r156_10, r156_13, r156_14, r156_17, r156_19, r156_20, r156_21, r156_22, r156_23, r156_24, r156_25, r156_28, r156_29, r156_32, r156_34, r156_35, r156_36, r156_37, r156_38, r156_39, r156_40, r156_43, r156_46, r156_47, r156_48, r156_49, r156_51, r156_54, r156_55, r156_57, r156_59, r156_61, r156_63, r156_66, r156_67, r156_68, r156_71, r156_74, r156_75, r156_78, r156_81, r156_82, r156_83, r156_84, r156_86, r156_87, r156_88, r156_89, r156_90, r156_91, r156_94, r156_95, r156_98, r156_101, r156_103, r156_104, r156_106, r156_107, r156_108, r156_109, r156_112, r156_115, r156_116, r156_117, r156_118, r156_121, r156_123, r156_124, r156_125, r156_127, r156_130, r156_133, r156_134, r156_137, r156_139, r156_140, r156_141, r156_142, r156_143, r156_145, r156_146, r156_149, r156_152, r156_153, r156_154, r156_157, ↓if_pos, ↓if_neg, kill, imul_eq, iadd_eq, ek2]
theorem m_divide (hs : 0 ≤ s ∧ s ≤ 3) (hP : RP I s v) (hG : RP I 4 G) (hG0 : 0 < G) (h2G : 2 * G < 1329227995784915872903807060280344576) : ∃ K, call (d + 3) 156 [vR 70, vI s] I = some (none, K) ∧ RP K s (v / G) ∧ FrSl [s, 5, 6] I K := by
  have hb := lsz_r (v := v)
  obtain ⟨J1, c1, r1, f1⟩ := m_copy (d := d + 1) (s := 6) (t := s) (by omega) (by omega) (by omega) hP
  obtain ⟨J2, c2, r2, f2⟩ := m_set (d := d + 1) (I := J1) (s := 5) (v := 0) (by omega) (by omega)
  have r12 : RP J2 6 v := r1.fr f2 (by omega)
  have rs2 : RP J2 s v := (hP.fr f1 (by omega)).fr f2 (by omega)
  have rg2 : RP J2 4 G := (hG.fr f1 (by omega)).fr f2 (by omega)
  have e6 := r12.2.1
  obtain ⟨J3, c3, f3, e3⟩ := m_divZ (d := d + 2) (I := J2) (m := lsz v) hs (by omega) (lsz v).toNat 0 J2 (vR 0) (vR 0) (vR 0) (by omega) (by omega) FrB.refl rfl
  obtain ⟨k, hk⟩ : ∃ k : Nat, lsz v = k := ⟨(lsz v).toNat, by omega⟩
  have h1 := lsz_lt (k := k) hP.1 (by omega)
  have e0 : v / BB k % G = 0 := by rw [Int.ediv_eq_zero_of_lt hP.1.1 h1]; exact Int.zero_emod _
  obtain ⟨K, c4, r4, f4⟩ := m_divL (d := d) (I := J3) (m := lsz v) hs hP.1 hG0 h2G (rg2.fr f3 (by omega)) (r12.fr f3 (by omega)) k J3 (vR 0) (vR 0) (vR 0) (by omega) FrSl.refl (e3.trans rs2.2.1) (by rw [e0]; exact r2.fr f3 (by omega)) (fun i i0 i1 => by omega)
  refine ⟨K, ?_, r4, ?_⟩
  · rw [hk] at e6 c4 c3
    rw [← c4, en156]
    rw [show runs (call (d + 2)) 156 50 [vR 70, vI s, vI (k : Int), vI ((k : Int) - 1), vR 0, vR 0, vR 0] [] J3 = runs (call (d + 2)) 156 46 [vR 70, vI s, vI (k : Int), vI (k : Int), vR 0, vR 0, vR 0] [] J3 by
      clear c1 c2 c3 c4 r1 r2 r4 f4 f3 f2 f1 rs2 rg2 r12 hP hG
      simp (disch := omega) only [r156_0, r156_1, r156_3, r156_4, r156_7, r156_8, r156_9, r156_10, r156_13, r156_14, r156_17, r156_19, r156_20, r156_21, r156_22, r156_23, r156_24, r156_25, r156_28, r156_29, r156_32, r156_34, r156_35, r156_36, r156_37, r156_38, r156_39, r156_40, r156_43, r156_46, r156_47, r156_48, r156_49, r156_51, r156_54, r156_55, r156_57, r156_59, r156_61, r156_63, r156_66, r156_67, r156_68, r156_71, r156_74, r156_75, r156_78, r156_81, r156_82, r156_83, r156_84, r156_86, r156_87, r156_88, r156_89, r156_90, r156_91, r156_94, r156_95, r156_98, r156_101, r156_103, r156_104, r156_106, r156_107, r156_108, r156_109, r156_112, r156_115, r156_116, r156_117, r156_118, r156_121, r156_123, r156_124, r156_125, r156_127, r156_130, r156_133, r156_134, r156_137, r156_139, r156_140, r156_141, r156_142, r156_143, r156_145, r156_146, r156_149, r156_152, r156_153, r156_154, r156_157, isub_eq]]
    rw [← c3]
    clear c3 c4 r1 r2 r4 f4 f3 f2 f1 rs2 rg2 r12 hP hG
    simp (disch := omega) only [r156_0, r156_1, r156_3, r156_4, r156_7, r156_8, r156_9, r156_10, r156_13, r156_14, r156_17, r156_19, r156_20, r156_21, r156_22, r156_24, r156_25, r156_28, r156_29, r156_32, r156_34, r156_35, r156_36, r156_37, r156_38, r156_39, r156_40, r156_43, r156_47, r156_48, r156_49, r156_51, r156_54, r156_55, r156_57, r156_59, r156_61, r156_63, r156_66, r156_67, r156_68, r156_71, r156_74, r156_75, r156_78, r156_81, r156_82, r156_83, r156_84, r156_86, r156_87, r156_88, r156_89, r156_90, r156_91, r156_94, r156_95, r156_98, r156_101, r156_103, r156_104, r156_106, r156_107, r156_108, r156_109, r156_112, r156_115, r156_116, r156_117, r156_118, r156_121, r156_123, r156_124, r156_125, r156_127, r156_130, r156_133, r156_134, r156_137, r156_139, r156_140, r156_141, r156_142, r156_143, r156_145, r156_146, r156_149, r156_152, r156_153, r156_154, r156_157, ↓if_pos, ↓if_neg, c1, c2, e6, Option.bind_some, pushR_n]
  · have g1 : FrSl [s, 5, 6] I J1 := f1.q (by simp)
    have g2 : FrSl [s, 5, 6] J1 J2 := f2.q (by simp)
    have g3 : FrSl [s, 5, 6] J2 J3 := f3.q (by simp)
    exact g1.trans (g2.trans (g3.trans (f4.sub (by simp))))
end
