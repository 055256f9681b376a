/-! digest of the model. -/
section
variable {d : Nat} {I J K : MM} {s : ST} {g : G} {a c w x y b p v i m f : Int}
theorem sums_loop (hf : 0 ≤ f ∧ f + m ≤ 110) (v1 : AV) : ∀ (n : Nat) (k h : Int), k + n = m → 0 ≤ k → runs (call d) 263 6 [vR 70, v1, vR 0, vI f, vI m, vL h, vR 0, vI k] [] I = some (some (vL (dgr (fun j => I 71 (f + j)) h k n)), I) := by
  intro n
  induction n with
  | zero =>
    intro k h hk k0
    simp (disch := omega) only [r263_0, r263_1, r263_3, r263_4, r263_6, r263_8, r263_10, r263_13, r263_16, r263_18, r263_19, r263_20, r263_23, r263_24, r263_26, r263_27, r263_28, r263_29, r263_30, r263_32, r263_35, r263_38, r263_40, ↓if_pos, ↓if_neg, dgr]
  | succ n ih =>
    intro k h hk k0
    push_cast at hk
    rw [dgr, ← ih (k + 1) (dg h (I 71 (f + k))) (by omega) (by omega), r263_6]
    simp (disch := omega) only [r263_0, r263_1, r263_3, r263_4, r263_8, r263_10, r263_13, r263_16, r263_18, r263_19, r263_20, r263_23, r263_24, r263_26, r263_27, r263_28, r263_29, r263_30, r263_32, r263_35, r263_38, r263_40, ↓if_pos, ↓if_neg, iadd_eq, kill_R, kill_I, dg, Option.bind_some, pushR_s]
theorem m_sums (hf : 0 ≤ f ∧ f + m ≤ 110) (hm : 0 ≤ m) : call (d + 1) 263 [vR 70, vL x, vI f, vI m] I = some (some (vL (dgr (fun j => I 71 (f + j)) x 0 m.toNat)), I) := by
  rw [en263]
  simp (disch := omega) only [r263_0, r263_1, r263_3, r263_4, r263_8, r263_10, r263_13, r263_16, r263_18, r263_19, r263_20, r263_23, r263_24, r263_26, r263_27, r263_28, r263_29, r263_30, r263_32, r263_35, r263_38, r263_40, kill_R]
  exact sums_loop hf _ m.toNat 0 x (by omega) (by omega)
theorem limb_loop {q : Int} (hs : x = 0 ∨ x = 1) (e : I 76 x = lsz q) (e2 : ∀ i, 0 ≤ i → i < lsz q → I 75 (64 * x + i) = lmb q i) : ∀ (n : Nat) (k h : Int), k + n = lsz q → 0 ≤ k → runs (call d) 264 133 [vR 70, vL h, vR 0, vI x, vI k] [] I = runs (call d) 264 125 [vR 70, vL (dgr (lmb q) h k n), vR 0, vI (x + 1), vI (lsz q)] [] I := by
  have hz := lsz_b q
  intro n
  induction n with
  | zero =>
    intro k h hk k0
    have hk2 : k = lsz q := by omega
    subst hk2
    rcases hs with rfl | rfl <;> simp (disch := omega) only [r264_0, r264_3, r264_4, r264_5, r264_6, r264_7, r264_9, r264_12, r264_15, r264_16, r264_17, r264_18, r264_19, r264_22, r264_23, r264_24, r264_25, r264_28, r264_31, r264_32, r264_33, r264_34, r264_35, r264_38, r264_39, r264_40, r264_43, r264_44, r264_45, r264_46, r264_48, r264_49, r264_50, r264_53, r264_54, r264_57, r264_58, r264_59, r264_60, r264_62, r264_63, r264_64, r264_67, r264_68, r264_71, r264_72, r264_73, r264_74, r264_76, r264_77, r264_80, r264_82, r264_83, r264_86, r264_87, r264_90, r264_93, r264_96, r264_97, r264_98, r264_99, r264_102, r264_103, r264_104, r264_105, r264_106, r264_109, r264_110, r264_111, r264_112, r264_113, r264_114, r264_115, r264_118, r264_119, r264_120, r264_121, r264_122, r264_123, r264_124, r264_126, r264_127, r264_130, r264_131, r264_133, r264_135, r264_136, r264_139, r264_140, r264_141, r264_144, r264_147, r264_148, r264_149, r264_150, r264_153, r264_155, r264_156, r264_157, r264_159, r264_160, r264_161, r264_162, r264_163, r264_166, r264_169, r264_172, r264_175, r264_176, ↓if_pos, ↓if_neg, e, iadd_eq, dgr, kill_R, kill_I]
  | succ n ih =>
    intro k h hk k0
    push_cast at hk
    have e3 := e2 k k0 (by omega)
    rw [dgr, ← ih (k + 1) (dg h (lmb q k)) (by omega) (by omega), r264_133]
    rcases hs with rfl | rfl <;> simp (disch := omega) only [r264_0, r264_3, r264_4, r264_5, r264_6, r264_7, r264_9, r264_12, r264_15, r264_16, r264_17, r264_18, r264_19, r264_22, r264_23, r264_24, r264_25, r264_28, r264_31, r264_32, r264_33, r264_34, r264_35, r264_38, r264_39, r264_40, r264_43, r264_44, r264_45, r264_46, r264_48, r264_49, r264_50, r264_53, r264_54, r264_57, r264_58, r264_59, r264_60, r264_62, r264_63, r264_64, r264_67, r264_68, r264_71, r264_72, r264_73, r264_74, r264_76, r264_77, r264_80, r264_82, r264_83, r264_86, r264_87, r264_90, r264_93, r264_96, r264_97, r264_98, r264_99, r264_102, r264_103, r264_104, r264_105, r264_106, r264_109, r264_110, r264_111, r264_112, r264_113, r264_114, r264_115, r264_118, r264_119, r264_120, r264_121, r264_122, r264_123, r264_124, r264_126, r264_127, r264_130, r264_131, r264_135, r264_136, r264_139, r264_140, r264_141, r264_144, r264_147, r264_148, r264_149, r264_150, r264_153, r264_155, r264_156, r264_157, r264_159, r264_160, r264_161, r264_162, r264_163, r264_166, r264_169, r264_172, r264_175, r264_176, ↓if_pos, ↓if_neg, e, e3, imul_eq, iadd_eq, kill_R, kill_I, dg, Option.bind_some, pushR_s]
theorem M_digest (hM : MR I s) (hO : OK s) : call (d + 3) 264 [vR 70] I = some (some (vL (aDigest s)), I) := by
  have hg := hO.W; have h7 := hg.last7; have hw := hg.nW3; have hb := hg.nB2; have hz := hO.rsz
  obtain ⟨c1, c2, c3, c4, c5⟩ := hM.F
  have hN := hM.S; have hR := hM.R; have hRM : RMf (I 71) (s 3 2) := hM.N.2.2.1
  have d1 : ∀ h, dgr (fun j => I 71 (0 + j)) h 0 ((gg s).last + 1).toNat = dgr (ground (gg s)) h 0 ((gg s).last + 1).toNat := fun h =>
    dgr_congr _ _ _ (fun j j0 j1 => by rw [Int.zero_add]; exact hR.pl j0 (by omega))
  have d2 : ∀ h, dgr (fun j => I 71 (9 + j)) h 0 (3 * (gg s).nW).toNat = dgr (fW (gg s) (cd s)) h 0 (3 * (gg s).nW.toNat) := fun h => by
    rw [show (3 * (gg s).nW).toNat = 3 * (gg s).nW.toNat by omega]
    refine dgr_congr _ _ _ (fun j j0 j1 => ?_)
    have hj : j / 3 < (gg s).nW := by omega
    obtain ⟨r1, r2⟩ := hR.2.2.1 (j / 3) (by omega) hj
    have r3 := hN.1 (j / 3) (by omega) hj
    unfold fW; split
    · rw [← r1]; congr 1; omega
    · split
      · rw [← r3]; congr 1; omega
      · rw [← r2]; congr 1; omega
  have d3 : ∀ h, dgr (fun j => I 71 (18 + j)) h 0 (4 * (gg s).nB).toNat = dgr (fB (gg s) (cd s)) h 0 (4 * (gg s).nB.toNat) := fun h => by
    rw [show (4 * (gg s).nB).toNat = 4 * (gg s).nB.toNat by omega]
    refine dgr_congr _ _ _ (fun j j0 j1 => ?_)
    have hj : j / 4 < (gg s).nB := by omega
    obtain ⟨r1, r2, r4⟩ := hR.2.2.2 (j / 4) (by omega) hj
    have r3 := hN.2 (j / 4) (by omega) hj
    have hv := hO.vn.2 (j / 4) (by omega) hj
    unfold fB; split
    · rw [← r1]; congr 1; omega
    · split
      · rw [← r2]; congr 1; omega
      · split
        · rw [← r4]; congr 1; omega
        · rw [lie, if_neg hv] at r3; rw [← r3]; congr 1; omega
  have d4 : ∀ h, dgr (fun j => I 71 (27 + j)) h 0 (s 3 2 (-1)).toNat = dgr (s 3 2) h 0 (s 3 2 (-1)).toNat := fun h =>
    dgr_congr _ _ _ (fun j j0 j1 => hRM.2 j j0 (by omega))
  have e26 : I 71 26 = s 3 2 (-1) := hRM.1
  rw [en264]
  simp (disch := omega) only [r264_0, r264_3, r264_4, r264_5, r264_6, r264_7, r264_9, r264_12, r264_15, r264_16, r264_17, r264_18, r264_19, r264_22, r264_23, r264_24, r264_25, r264_28, r264_31, r264_32, r264_33, r264_34, r264_35, r264_38, r264_39, r264_40, r264_43, r264_44, r264_45, r264_46, r264_48, r264_49, r264_50, r264_53, r264_54, r264_57, r264_58, r264_59, r264_60, r264_62, r264_63, r264_64, r264_67, r264_68, r264_71, r264_72, r264_73, r264_74, r264_76, r264_77, r264_80, r264_82, r264_83, r264_86, r264_87, r264_90, r264_93, r264_96, r264_97, r264_98, r264_99, r264_102, r264_103, r264_104, r264_105, r264_106, r264_109, r264_110, r264_111, r264_112, r264_113, r264_114, r264_115, r264_118, r264_119, r264_120, r264_121, r264_122, r264_123, r264_124, r264_126, r264_127, r264_130, r264_131, r264_133, r264_135, r264_136, r264_139, r264_140, r264_141, r264_144, r264_147, r264_148, r264_149, r264_150, r264_153, r264_155, r264_156, r264_157, r264_159, r264_160, r264_161, r264_162, r264_163, r264_166, r264_169, r264_172, r264_175, r264_176, ↓if_pos, ↓if_neg, m_counted hM, m_last hR, m_walkers hR, m_boards hR, iadd_eq, imul_eq, Int.reduceAdd, m_sums, d1, d2, d3, d4, e26, c3, c4, c5, kill_R, kill_I, Option.bind_some, pushR_s]
  have l0 := fun h => limb_loop (d := d + 2) (I := I) (x := 0) (Or.inl rfl) c3 (fun i i0 i1 => by rw [Int.mul_zero, Int.zero_add]; exact c1 i i0 i1) (lsz (s 3 5 0)).toNat 0 h (by have := lsz_b (s 3 5 0); omega) (by omega)
  have l1 := fun h => limb_loop (d := d + 2) (I := I) (x := 1) (Or.inr rfl) c4 (fun i i0 i1 => by rw [Int.mul_one]; exact c2 i i0 i1) (lsz (s 3 5 1)).toNat 0 h (by have := lsz_b (s 3 5 1); omega) (by omega)
  simp (disch := omega) only [r264_0, r264_3, r264_4, r264_5, r264_6, r264_7, r264_9, r264_12, r264_15, r264_16, r264_17, r264_18, r264_19, r264_22, r264_23, r264_24, r264_25, r264_28, r264_31, r264_32, r264_33, r264_34, r264_35, r264_38, r264_39, r264_40, r264_43, r264_44, r264_45, r264_46, r264_48, r264_49, r264_50, r264_53, r264_54, r264_57, r264_58, r264_59, r264_60, r264_62, r264_63, r264_64, r264_67, r264_68, r264_71, r264_72, r264_73, r264_74, r264_76, r264_77, r264_80, r264_82, r264_83, r264_86, r264_87, r264_90, r264_93, r264_96, r264_97, r264_98, r264_99, r264_102, r264_103, r264_104, r264_105, r264_106, r264_109, r264_110, r264_111, r264_112, r264_113, r264_114, r264_115, r264_118, r264_119, r264_120, r264_121, r264_122, r264_123, r264_124, r264_125, r264_126, r264_127, r264_130, r264_131, r264_135, r264_136, r264_139, r264_140, r264_141, r264_144, r264_147, r264_148, r264_149, r264_150, r264_153, r264_155, r264_156, r264_157, r264_159, r264_160, r264_161, r264_162, r264_163, r264_166, r264_169, r264_172, r264_175, r264_176, ↓if_pos, ↓if_neg, kill_R, kill_I]
  rw [l0]
  simp (disch := omega) only [r264_0, r264_3, r264_4, r264_5, r264_6, r264_7, r264_9, r264_12, r264_15, r264_16, r264_17, r264_18, r264_19, r264_22, r264_23, r264_24, r264_25, r264_28, r264_31, r264_32, r264_33, r264_34, r264_35, r264_38, r264_39, r264_40, r264_43, r264_44, r264_45, r264_46, r264_48, r264_49, r264_50, r264_53, r264_54, r264_57, r264_58, r264_59, r264_60, r264_62, r264_63, r264_64, r264_67, r264_68, r264_71, r264_72, r264_73, r264_74, r264_76, r264_77, r264_80, r264_82, r264_83, r264_86, r264_87, r264_90, r264_93, r264_96, r264_97, r264_98, r264_99, r264_102, r264_103, r264_104, r264_105, r264_106, r264_109, r264_110, r264_111, r264_112, r264_113, r264_114, r264_115, r264_118, r264_119, r264_120, r264_121, r264_122, r264_123, r264_124, r264_125, r264_126, r264_127, r264_130, r264_131, r264_135, r264_136, r264_139, r264_140, r264_141, r264_144, r264_147, r264_148, r264_149, r264_150, r264_153, r264_155, r264_156, r264_157, r264_159, r264_160, r264_161, r264_162, r264_163, r264_166, r264_169, r264_172, r264_175, r264_176, ↓if_pos, ↓if_neg, Int.reduceAdd, kill_R, kill_I]
  rw [l1]
  simp (disch := omega) only [r264_0, r264_3, r264_4, r264_5, r264_6, r264_7, r264_9, r264_12, r264_15, r264_16, r264_17, r264_18, r264_19, r264_22, r264_23, r264_24, r264_25, r264_28, r264_31, r264_32, r264_33, r264_34, r264_35, r264_38, r264_39, r264_40, r264_43, r264_44, r264_45, r264_46, r264_48, r264_49, r264_50, r264_53, r264_54, r264_57, r264_58, r264_59, r264_60, r264_62, r264_63, r264_64, r264_67, r264_68, r264_71, r264_72, r264_73, r264_74, r264_76, r264_77, r264_80, r264_82, r264_83, r264_86, r264_87, r264_90, r264_93, r264_96, r264_97, r264_98, r264_99, r264_102, r264_103, r264_104, r264_105, r264_106, r264_109, r264_110, r264_111, r264_112, r264_113, r264_114, r264_115, r264_118, r264_119, r264_120, r264_121, r264_122, r264_123, r264_124, r264_125, r264_126, r264_127, r264_130, r264_131, r264_135, r264_136, r264_139, r264_140, r264_141, r264_144, r264_147, r264_148, r264_149, r264_150, r264_153, r264_155, r264_156, r264_157, r264_159, r264_160, r264_161, r264_162, r264_163, r264_166, r264_169, r264_172, r264_175, r264_176, ↓if_pos, ↓if_neg, Int.reduceAdd, kill_R, kill_I]
  rfl
end
