/-! leaps of the model, to its end. -/
section
variable {d : Nat} {I J K : MM} {s : ST} {g : G} {a c w x y b p v i m f : Int} {Q : List QE}
theorem leapFrom_loop {k : Nat} {L : Int} (hg : WG g) (hL : 0 ≤ L) : ∀ (r : Nat) (w : Int) (v4 : AV) (J : MM) (Q : List QE), w + r = g.nW → 0 ≤ w → RG J g → MQl J g Q → QI g Q → k < Q.length → ∃ K, runs (call (d + 7)) 213 2 [vR 70, vI (mst (qc Q k)), vI L, vI w, v4] [] J = some (none, K) ∧ MF J K ∧ MQl K g (ex g k (1280 - (1024 + 64 * w)).toNat (1024 + 64 * w) Q) := by
  have hn := hg.nW3
  intro r
  induction r with
  | zero =>
    intro w v4 J Q hr w0 hR hM hI hk
    have : w = g.nW := by omega
    subst this
    refine ⟨J, ?_, MF.refl J, ?_⟩
    · simp (disch := omega) only [r213_0, r213_1, r213_2, r213_3, r213_4, r213_7, r213_10, r213_11, r213_13, r213_15, r213_16, r213_19, r213_20, r213_21, r213_24, r213_25, r213_26, r213_29, r213_30, r213_31, r213_34, r213_35, r213_37, r213_40, r213_41, r213_42, r213_45, r213_46, r213_49, r213_52, r213_53, r213_54, r213_57, r213_58, r213_61, r213_64, r213_67, r213_70, r213_73, ↓if_pos, ↓if_neg, m_walkers hR, Option.bind_some, pushR_s]
    · rw [ex_end (fun e e0 e1 => no_leap (by omega) (Or.inr (Or.inr (by omega))))]; exact hM
  | succ r ih =>
    intro w v4 J Q hr w0 hR hM hI hk
    push_cast at hr
    obtain ⟨K1, Q1, k1, k2, k3, k4, k5, k6, k7⟩ := leapFrom_way (d := d) (w := w) hg ⟨w0, by omega⟩ hL 2 0 J Q (by omega) (by omega) hR hM hI hk
    obtain ⟨K, j1, j2, j3⟩ := ih (w + 1) (vI 2) K1 Q1 (by omega) (by omega) (k2.RG hR) k3 k4 k5
    refine ⟨K, ?_, k2.trans j2, ?_⟩
    · rw [k6] at j1
      rw [← j1]
      have hpre : runs (call (d + 7)) 213 2 [vR 70, vI (mst (qc Q k)), vI L, vI w, v4] [] J = runs (call (d + 7)) 213 13 [vR 70, vI (mst (qc Q k)), vI L, vI w, vI 0] [] J := by
        simp (disch := omega) only [r213_0, r213_1, r213_2, r213_3, r213_4, r213_7, r213_10, r213_11, r213_15, r213_16, r213_19, r213_20, r213_21, r213_24, r213_25, r213_26, r213_29, r213_30, r213_31, r213_34, r213_35, r213_37, r213_40, r213_41, r213_42, r213_45, r213_46, r213_49, r213_52, r213_53, r213_54, r213_57, r213_58, r213_61, r213_64, r213_67, r213_70, r213_73, ↓if_pos, ↓if_neg, m_walkers hR, Option.bind_some, pushR_s]
      rw [hpre, k1]
      simp (disch := omega) only [r213_0, r213_1, r213_3, r213_4, r213_7, r213_10, r213_11, r213_13, r213_15, r213_16, r213_19, r213_20, r213_21, r213_24, r213_25, r213_26, r213_29, r213_30, r213_31, r213_34, r213_35, r213_37, r213_40, r213_41, r213_42, r213_45, r213_46, r213_49, r213_52, r213_53, r213_54, r213_57, r213_58, r213_61, r213_64, r213_67, r213_70, r213_73, iadd_eq]
    · have e0 : (1024 + 64 * w + 8 * 0 : Int) = 1024 + 64 * w := by omega
      rw [e0] at k7
      rw [k7]
      have e1 : (1280 - (1024 + 64 * w + 16)).toNat = 48 + (1280 - (1024 + 64 * (w + 1))).toNat := by omega
      rw [e1, ex_add, ex_no 48 _ (fun e e0 e1 => by rw [outc_no (no_leap (by omega) (Or.inr (Or.inl (by omega))))]; omega)]
      have e2 : 1024 + 64 * w + 16 + ((48 : Nat) : Int) = 1024 + 64 * (w + 1) := by omega
      rw [e2]; exact j3
theorem m_leapFrom {k : Nat} {L : Int} (hg : WG g) (hL : 0 ≤ L) (hR : RG J g) (hM : MQl J g Q) (hI : QI g Q) (hk : k < Q.length) : ∃ K, call (d + 8) 213 [vR 70, vI (mst (qc Q k)), vI L] J = some (none, K) ∧ MF J K ∧ MQl K g (ex g k 256 1024 Q) := by
  have hn := hg.nW3
  obtain ⟨K, k1, k2, k3⟩ := leapFrom_loop (d := d) hg hL g.nW.toNat 0 (vR 0) J Q (by omega) (by omega) hR hM hI hk
  refine ⟨K, ?_, k2, k3⟩
  rw [en213, ← k1]
  simp (disch := omega) only [r213_0, r213_1, r213_3, r213_4, r213_7, r213_10, r213_11, r213_13, r213_15, r213_16, r213_19, r213_20, r213_21, r213_24, r213_25, r213_26, r213_29, r213_30, r213_31, r213_34, r213_35, r213_37, r213_40, r213_41, r213_42, r213_45, r213_46, r213_49, r213_52, r213_53, r213_54, r213_57, r213_58, r213_61, r213_64, r213_67, r213_70, r213_73]
theorem mleap_loop {x1 L : Int} {le : Nat} (x4 : Int) (v6 : AV) (hL : 0 ≤ L ∧ L ≤ 4) (hg : WG g) : ∀ (r j : Nat) (J : MM) (Q : List QE), j + r = le → le ≤ Q.length → RG J g → MQl J g Q → QI g Q → ∃ K, MF J K ∧ runs (call (d + 8)) 212 145 [vR 70, vI x1, vI le, vI L, vI x4, vI j, v6] [] J = runs (call (d + 8)) 212 171 [vR 70, vI x1, vI le, vI L, vI x4, vI le, v6] [] K ∧ MQl K g (lex g r j Q) ∧ QI g (lex g r j Q) := by
  intro r
  induction r with
  | zero =>
    intro j J Q hj hle hR hM hI
    have : j = le := by omega
    subst this
    refine ⟨J, MF.refl J, ?_, hM, hI⟩
    simp (disch := omega) only [r212_0, r212_1, r212_2, r212_5, r212_6, r212_7, r212_10, r212_13, r212_14, r212_16, r212_19, r212_20, r212_21, r212_22, r212_25, r212_28, r212_29, r212_30, r212_31, r212_32, r212_35, r212_38, r212_39, r212_40, r212_41, r212_42, r212_43, r212_44, r212_47, r212_48, r212_50, r212_51, r212_52, r212_55, r212_58, r212_59, r212_62, r212_63, r212_64, r212_66, r212_67, r212_69, r212_72, r212_73, r212_76, r212_79, r212_80, r212_81, r212_82, r212_83, r212_86, r212_88, r212_90, r212_93, r212_96, r212_97, r212_99, r212_102, r212_103, r212_105, r212_108, r212_109, r212_112, r212_115, r212_116, r212_117, r212_120, r212_121, r212_124, r212_125, r212_127, r212_130, r212_132, r212_135, r212_138, r212_141, r212_143, r212_145, r212_147, r212_148, r212_151, r212_152, r212_153, r212_156, r212_158, r212_159, r212_160, r212_161, r212_162, r212_165, r212_168, r212_174, r212_177, r212_178, ↓if_pos, ↓if_neg]
  | succ r ih =>
    intro j J Q hj hle hR hM hI
    have hlen := hI.mlen' hg
    have hjl : j < Q.length := by omega
    obtain ⟨e82, -⟩ := hM.2.1 j hjl
    obtain ⟨K1, k1, k2, k3⟩ := m_leapFrom (d := d) (L := L + 1) hg (by omega) hR hM hI hjl
    have hlx : le ≤ (ex g j 256 1024 Q).length := by
      obtain ⟨T, hT⟩ := ex_pre g j 256 1024 Q
      rw [hT, List.length_append]; omega
    obtain ⟨K, m1, m2, m3⟩ := ih (j + 1) K1 (ex g j 256 1024 Q) (by omega) hlx (k2.RG hR) k3 (QI.ex hg 256 1024 Q hI hjl)
    refine ⟨K, k2.trans m1, ?_, m3⟩
    rw [← m2, r212_145]
    push_cast
    simp (disch := omega) only [r212_0, r212_1, r212_2, r212_5, r212_6, r212_7, r212_10, r212_13, r212_14, r212_16, r212_19, r212_20, r212_21, r212_22, r212_25, r212_28, r212_29, r212_30, r212_31, r212_32, r212_35, r212_38, r212_39, r212_40, r212_41, r212_42, r212_43, r212_44, r212_47, r212_48, r212_50, r212_51, r212_52, r212_55, r212_58, r212_59, r212_62, r212_63, r212_64, r212_66, r212_67, r212_69, r212_72, r212_73, r212_76, r212_79, r212_80, r212_81, r212_82, r212_83, r212_86, r212_88, r212_90, r212_93, r212_96, r212_97, r212_99, r212_102, r212_103, r212_105, r212_108, r212_109, r212_112, r212_115, r212_116, r212_117, r212_120, r212_121, r212_124, r212_125, r212_127, r212_130, r212_132, r212_135, r212_138, r212_141, r212_143, r212_147, r212_148, r212_151, r212_152, r212_153, r212_156, r212_158, r212_159, r212_160, r212_161, r212_162, r212_165, r212_168, r212_174, r212_177, r212_178, ↓if_pos, ↓if_neg, e82, iadd_eq, k1, Option.bind_some, pushR_n]
theorem mleaps_loop {x1 : Int} (hg : WG g) : ∀ (n : Nat) (L : Int) (k : Nat) (v4 v5 v6 : AV) (J : MM) (Q : List QE), L + n = 4 → 0 ≤ L → k ≤ Q.length → RG J g → MQl J g Q → QI g Q → ∃ K, MF J K ∧ runs (call (d + 8)) 212 42 [vR 70, vI x1, vI k, vI L, v4, v5, v6] [] J = some (some (vI (leR g n L k Q)), K) := by
  intro n
  induction n with
  | zero =>
    intro L k v4 v5 v6 J Q hL L0 hk hR hM hI
    have : L = 4 := by omega
    subst this
    refine ⟨J, MF.refl J, ?_⟩
    rw [leR]
    simp (disch := omega) only [r212_0, r212_1, r212_2, r212_5, r212_6, r212_7, r212_10, r212_13, r212_14, r212_16, r212_19, r212_20, r212_21, r212_22, r212_25, r212_28, r212_29, r212_30, r212_31, r212_32, r212_35, r212_38, r212_39, r212_40, r212_41, r212_42, r212_43, r212_44, r212_47, r212_48, r212_50, r212_51, r212_52, r212_55, r212_58, r212_59, r212_62, r212_63, r212_64, r212_66, r212_67, r212_69, r212_72, r212_73, r212_76, r212_79, r212_80, r212_81, r212_82, r212_83, r212_86, r212_88, r212_90, r212_93, r212_96, r212_97, r212_99, r212_102, r212_103, r212_105, r212_108, r212_109, r212_112, r212_115, r212_116, r212_117, r212_120, r212_121, r212_124, r212_125, r212_127, r212_130, r212_132, r212_135, r212_138, r212_141, r212_143, r212_145, r212_147, r212_148, r212_151, r212_152, r212_153, r212_156, r212_158, r212_159, r212_160, r212_161, r212_162, r212_165, r212_168, r212_171, r212_174, r212_177, r212_178, ↓if_pos, ↓if_neg]
  | succ n ih =>
    intro L k v4 v5 v6 J Q hL L0 hk hR hM hI
    push_cast at hL
    rw [leR_s]
    obtain ⟨K1, f0, hfl⟩ := mflood_loop (d := d + 1) (x1 := x1) (L := L) (k : Int) L0 hg 131073 k v5 v6 J Q (by omega) hk hR hM hI
    have hpre : runs (call (d + 8)) 212 42 [vR 70, vI x1, vI k, vI L, v4, v5, v6] [] J = runs (call (d + 8)) 212 50 [vR 70, vI x1, vI k, vI L, vI k, v5, v6] [] J := by
      simp (disch := omega) only [r212_0, r212_1, r212_2, r212_5, r212_6, r212_7, r212_10, r212_13, r212_14, r212_16, r212_19, r212_20, r212_21, r212_22, r212_25, r212_28, r212_29, r212_30, r212_31, r212_32, r212_35, r212_38, r212_39, r212_40, r212_41, r212_42, r212_43, r212_44, r212_47, r212_48, r212_51, r212_52, r212_55, r212_58, r212_59, r212_62, r212_63, r212_64, r212_66, r212_67, r212_69, r212_72, r212_73, r212_76, r212_79, r212_80, r212_81, r212_82, r212_83, r212_86, r212_88, r212_90, r212_93, r212_96, r212_97, r212_99, r212_102, r212_103, r212_105, r212_108, r212_109, r212_112, r212_115, r212_116, r212_117, r212_120, r212_121, r212_124, r212_125, r212_127, r212_130, r212_132, r212_135, r212_138, r212_141, r212_143, r212_145, r212_147, r212_148, r212_151, r212_152, r212_153, r212_156, r212_158, r212_159, r212_160, r212_161, r212_162, r212_165, r212_168, r212_171, r212_174, r212_177, r212_178, ↓if_pos, ↓if_neg]
    rw [hpre]
    rcases hfl with ⟨f1, f2⟩ | ⟨w5, w6, f1, f2, f3, f4, f5⟩
    · rw [if_pos f2]
      exact ⟨K1, f0, f1⟩
    · rw [if_neg (by rw [f2]; decide), f1]
      generalize flQ g 131073 k Q = Q1 at *
      obtain ⟨K2, g0, g1, g2, g3⟩ := mleap_loop (d := d) (x1 := x1) (L := L) (le := Q1.length) (k : Int) w6 (by omega) hg (Q1.length - k) k K1 Q1 (by omega) (Nat.le_refl _) (f0.RG hR) f3 f4
      obtain ⟨T, hT⟩ := lex_pre g (Q1.length - k) k Q1
      have f01 := f0.trans g0
      obtain ⟨K3, j0, j1⟩ := ih (L + 1) Q1.length (vI (k : Int)) (vI (Q1.length : Int)) w6 K2 (lex g (Q1.length - k) k Q1) (by omega) (by omega) (by rw [hT, List.length_append]; omega) (f01.RG hR) g2 g3
      refine ⟨K3, f01.trans j0, ?_⟩
      rw [← j1]
      have hm1 : runs (call (d + 8)) 212 141 [vR 70, vI x1, vI (Q1.length : Int), vI L, vI (k : Int), w5, w6] [] K1 = runs (call (d + 8)) 212 145 [vR 70, vI x1, vI (Q1.length : Int), vI L, vI (k : Int), vI (k : Int), w6] [] K1 := by
        simp (disch := omega) only [r212_0, r212_1, r212_2, r212_5, r212_6, r212_7, r212_10, r212_13, r212_14, r212_16, r212_19, r212_20, r212_21, r212_22, r212_25, r212_28, r212_29, r212_30, r212_31, r212_32, r212_35, r212_38, r212_39, r212_40, r212_41, r212_42, r212_43, r212_44, r212_47, r212_48, r212_50, r212_51, r212_52, r212_55, r212_58, r212_59, r212_62, r212_63, r212_64, r212_66, r212_67, r212_69, r212_72, r212_73, r212_76, r212_79, r212_80, r212_81, r212_82, r212_83, r212_86, r212_88, r212_90, r212_93, r212_96, r212_97, r212_99, r212_102, r212_103, r212_105, r212_108, r212_109, r212_112, r212_115, r212_116, r212_117, r212_120, r212_121, r212_124, r212_125, r212_127, r212_130, r212_132, r212_135, r212_138, r212_141, r212_143, r212_147, r212_148, r212_151, r212_152, r212_153, r212_156, r212_158, r212_159, r212_160, r212_161, r212_162, r212_165, r212_168, r212_171, r212_174, r212_177, r212_178, ↓if_pos, ↓if_neg]
      rw [hm1, g1]
      simp (disch := omega) only [r212_0, r212_1, r212_2, r212_5, r212_6, r212_7, r212_10, r212_13, r212_14, r212_16, r212_19, r212_20, r212_21, r212_22, r212_25, r212_28, r212_29, r212_30, r212_31, r212_32, r212_35, r212_38, r212_39, r212_40, r212_41, r212_43, r212_44, r212_47, r212_48, r212_50, r212_51, r212_52, r212_55, r212_58, r212_59, r212_62, r212_63, r212_64, r212_66, r212_67, r212_69, r212_72, r212_73, r212_76, r212_79, r212_80, r212_81, r212_82, r212_83, r212_86, r212_88, r212_90, r212_93, r212_96, r212_97, r212_99, r212_102, r212_103, r212_105, r212_108, r212_109, r212_112, r212_115, r212_116, r212_117, r212_120, r212_121, r212_124, r212_125, r212_127, r212_130, r212_132, r212_135, r212_138, r212_141, r212_143, r212_145, r212_147, r212_148, r212_151, r212_152, r212_153, r212_156, r212_158, r212_159, r212_160, r212_161, r212_162, r212_165, r212_168, r212_171, r212_174, r212_177, r212_178, iadd_eq]
theorem m_begin_l (hg : WG g) (hV : VC g c) : ∃ K, call (d + 1) 202 [vR 70, vI (mst c)] I = some (none, K) ∧ MF I K ∧ MQl K g (Q0 c) := by
  obtain ⟨K, k1, k2, k3⟩ := m_begin (d := d) (I := I) hg hV
  refine ⟨K, k1, k2, k3.1, fun i hi => ?_, k3.2.2⟩
  obtain ⟨h1, h2⟩ := k3.2.1 i hi
  refine ⟨h1, ?_⟩
  rw [h2]
  have : i = 0 := by have : i < 1 := hi; omega
  subst this; simp [qd, nth, Q0]
theorem M_leaps (hM : MR I s) (hO : OK s) : MA (d + 9) 212 [vI b] I (aLeaps s b) (sLeaps s b) := by
  unfold aLeaps sLeaps
  have hgW := hO.W
  by_cases h : kLeaps s b
  · rw [if_pos h, if_pos h]
    obtain ⟨J, j1, j2, j3⟩ := m_takeWithout (d := d + 3) hM hO h
    by_cases ho : b ≠ -1 ∧ onIt (gg s) (cd s) b
    · rw [if_pos ho] at j1
      have hr : leapsA (gg s) (cd s) b = -1 := by unfold leapsA; rw [if_neg ho.1, if_pos ho.2]
      have hb : b ≠ -1 := ho.1
      have hb2 : 0 ≤ b ∧ b < (gg s).nB := h.resolve_left hb
      rw [hr]; clear ho h
      refine ⟨J, ?_, hM.fr8 hO j2, j2.out⟩
      rw [en212]
      simp (disch := omega) only [r212_0, r212_1, r212_2, r212_5, r212_6, r212_7, r212_10, r212_13, r212_14, r212_16, r212_19, r212_20, r212_21, r212_22, r212_25, r212_28, r212_29, r212_30, r212_31, r212_32, r212_35, r212_38, r212_39, r212_40, r212_41, r212_42, r212_43, r212_44, r212_47, r212_48, r212_50, r212_51, r212_52, r212_55, r212_58, r212_59, r212_62, r212_63, r212_64, r212_66, r212_67, r212_69, r212_72, r212_73, r212_76, r212_79, r212_80, r212_81, r212_82, r212_83, r212_86, r212_88, r212_90, r212_93, r212_96, r212_97, r212_99, r212_102, r212_103, r212_105, r212_108, r212_109, r212_112, r212_115, r212_116, r212_117, r212_120, r212_121, r212_124, r212_125, r212_127, r212_130, r212_132, r212_135, r212_138, r212_141, r212_143, r212_145, r212_147, r212_148, r212_151, r212_152, r212_153, r212_156, r212_158, r212_159, r212_160, r212_161, r212_162, r212_165, r212_168, r212_171, r212_174, r212_177, r212_178, ↓if_pos, ↓if_neg, m_isBoard hM.R hO.W, j1, Option.bind_some, pushR_s]
    · rw [if_neg ho] at j1
      -- the start
      obtain ⟨c2, hV2, hce, hre⟩ : ∃ c2, VC (gg s) c2 ∧ (if b = -1 then cd s else setB (cd s) b 15) = c2 ∧ leapsA (gg s) (cd s) b = leR (gg s) 4 0 0 (Q0 c2) := by
        by_cases hb : b = -1
        · exact ⟨cd s, hO.V, if_pos hb, if_pos hb⟩
        · have hb2 : 0 ≤ b ∧ b < (gg s).nB := h.resolve_left hb
          refine ⟨setB (cd s) b 15, vc_lost hO.W hO.V hb2.1 hb2.2, if_neg hb, ?_⟩
          unfold leapsA
          rw [if_neg hb, if_neg (fun q => ho ⟨hb, q⟩)]
      rw [hce] at j3
      rw [hre]
      have hR := j2.mf.RG hM.R
      have hst := m_stateNow (d := d + 6) hR j3 hO.W hV2
      obtain ⟨K0, b1, b2, b3⟩ := m_begin_l (d := d + 7) (I := J) hO.W hV2
      obtain ⟨K, k0, k1⟩ := mleaps_loop (d := d) (x1 := b) hO.W 4 0 0 (vR 0) (vR 0) (vR 0) K0 (Q0 c2) (by omega) (by omega) (by omega) (b2.RG hR) b3 (Q0_qi hV2)
      have hf := j2.mf.trans (b2.trans k0)
      refine ⟨K, ?_, hM.mf hO hf, hf.out⟩
      rw [en212, ← k1]
      by_cases hb : b = -1
      · clear ho h
        simp (disch := omega) only [r212_0, r212_1, r212_2, r212_5, r212_6, r212_7, r212_10, r212_13, r212_14, r212_16, r212_19, r212_20, r212_21, r212_22, r212_25, r212_28, r212_29, r212_30, r212_31, r212_32, r212_35, r212_38, r212_39, r212_40, r212_41, r212_43, r212_44, r212_47, r212_48, r212_50, r212_51, r212_52, r212_55, r212_58, r212_59, r212_62, r212_63, r212_64, r212_66, r212_67, r212_69, r212_72, r212_73, r212_76, r212_79, r212_80, r212_81, r212_82, r212_83, r212_86, r212_88, r212_90, r212_93, r212_96, r212_97, r212_99, r212_102, r212_103, r212_105, r212_108, r212_109, r212_112, r212_115, r212_116, r212_117, r212_120, r212_121, r212_124, r212_125, r212_127, r212_130, r212_132, r212_135, r212_138, r212_141, r212_143, r212_145, r212_147, r212_148, r212_151, r212_152, r212_153, r212_156, r212_158, r212_159, r212_160, r212_161, r212_162, r212_165, r212_168, r212_171, r212_174, r212_177, r212_178, ↓if_pos, ↓if_neg, j1, hst, b1, Option.bind_some, pushR_s, pushR_n, Int.natCast_zero]
      · have hb2 : 0 ≤ b ∧ b < (gg s).nB := h.resolve_left hb
        clear ho h
        simp (disch := omega) only [r212_0, r212_1, r212_2, r212_5, r212_6, r212_7, r212_10, r212_13, r212_14, r212_16, r212_19, r212_20, r212_21, r212_22, r212_25, r212_28, r212_29, r212_30, r212_31, r212_32, r212_35, r212_38, r212_39, r212_40, r212_41, r212_43, r212_44, r212_47, r212_48, r212_50, r212_51, r212_52, r212_55, r212_58, r212_59, r212_62, r212_63, r212_64, r212_66, r212_67, r212_69, r212_72, r212_73, r212_76, r212_79, r212_80, r212_81, r212_82, r212_83, r212_86, r212_88, r212_90, r212_93, r212_96, r212_97, r212_99, r212_102, r212_103, r212_105, r212_108, r212_109, r212_112, r212_115, r212_116, r212_117, r212_120, r212_121, r212_124, r212_125, r212_127, r212_130, r212_132, r212_135, r212_138, r212_141, r212_143, r212_145, r212_147, r212_148, r212_151, r212_152, r212_153, r212_156, r212_158, r212_159, r212_160, r212_161, r212_162, r212_165, r212_168, r212_171, r212_174, r212_177, r212_178, ↓if_pos, ↓if_neg, m_isBoard hM.R hO.W, j1, hst, b1, Option.bind_some, pushR_s, pushR_n, Int.natCast_zero]
  · rw [if_neg h, if_neg h]; refine MA.bump hO hM (by omega) ?_
    have h1 : b ≠ -1 := fun q => h (Or.inl q)
    have h2 : ¬ (0 ≤ b ∧ b < (gg s).nB) := fun q => h (Or.inr q)
    clear h
    rw [en212]; simp (disch := omega) only [r212_0, r212_1, r212_2, r212_5, r212_6, r212_7, r212_10, r212_13, r212_14, r212_16, r212_19, r212_20, r212_21, r212_22, r212_25, r212_28, r212_29, r212_30, r212_31, r212_32, r212_35, r212_38, r212_39, r212_40, r212_41, r212_42, r212_43, r212_44, r212_47, r212_48, r212_50, r212_51, r212_52, r212_55, r212_58, r212_59, r212_62, r212_63, r212_64, r212_66, r212_67, r212_69, r212_72, r212_73, r212_76, r212_79, r212_80, r212_81, r212_82, r212_83, r212_86, r212_88, r212_90, r212_93, r212_96, r212_97, r212_99, r212_102, r212_103, r212_105, r212_108, r212_109, r212_112, r212_115, r212_116, r212_117, r212_120, r212_121, r212_124, r212_125, r212_127, r212_130, r212_132, r212_135, r212_138, r212_141, r212_143, r212_145, r212_147, r212_148, r212_151, r212_152, r212_153, r212_156, r212_158, r212_159, r212_160, r212_161, r212_162, r212_165, r212_168, r212_171, r212_174, r212_177, r212_178, ↓if_pos, ↓if_neg, m_isBoard hM.R hO.W, m_bad, Option.bind_some, pushR_s]
end
