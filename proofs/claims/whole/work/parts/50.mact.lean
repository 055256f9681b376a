/-! act and undo of the model. -/
def memT (J : MM) (m : Int) : MM := mset (mset (mset (mset (mset (mset J 71 (70 + 5 * m) (J 71 10)) 71 (70 + 5 * m + 1) (J 71 13)) 71 (70 + 5 * m + 2) (J 71 16)) 71 (70 + 5 * m + 3) (J 71 21)) 71 (70 + 5 * m + 3 + 1) (J 71 25)) 71 69 (m + 1)
theorem memT_o {J : MM} {m i : Int} (hm : 0 ≤ m ∧ m ≤ 7) (h : ¬ (69 ≤ i ∧ i < 110)) : memT J m 71 i = J 71 i := by
  simp (disch := omega) only [memT, mset_at, ↓if_neg]
theorem memT_a {J : MM} {m i : Int} {a : Nat} (ha : a ≠ 71) : memT J m a i = J a i := by
  simp [memT, mset_at, ha]
theorem memT_e {J : MM} {m k i : Int} (hm : 0 ≤ m ∧ m ≤ 7) (h : 0 ≤ k ∧ k < m) (hi : 0 ≤ i ∧ i < 5) : memT J m 71 (70 + 5 * k + i) = J 71 (70 + 5 * k + i) := by
  simp (disch := omega) only [memT, mset_at, ↓if_neg]
theorem memT_w {J : MM} {m w : Int} (hm : 0 ≤ m ∧ m ≤ 7) (h : 0 ≤ w ∧ w < 3) : memT J m 71 (70 + 5 * m + w) = J 71 (9 + 3 * w + 1) := by
  rcases w012 h with rfl | rfl | rfl <;> simp (disch := omega) only [memT, mset_at, ↓if_pos, ↓if_neg] <;> rfl
theorem memT_b {J : MM} {m b : Int} (hm : 0 ≤ m ∧ m ≤ 7) (h : 0 ≤ b ∧ b < 2) : memT J m 71 (70 + 5 * m + 3 + b) = J 71 (18 + 4 * b + 3) := by
  rcases b01 h with rfl | rfl <;> simp (disch := omega) only [memT, mset_at, ↓if_pos, ↓if_neg] <;> rfl
theorem memT_69 {J : MM} {m : Int} : memT J m 71 69 = m + 1 := by
  simp (disch := omega) only [memT, mset_at, ↓if_pos]
section
variable {d : Nat} {I J K : MM} {s : ST} {g : G} {a c w x y b p v i m : Int}
theorem act_tail (v2 : AV) (hm : J 71 69 = m) (h07 : 0 ≤ m ∧ m ≤ 7) (hR : RG J g) (hg : WG g) (hM : MS J g c) : ∃ K, runs (call (d + 2)) 195 66 [vR 70, vI a, v2, vR 0] [] J = some (some (vI 1), K) ∧ (∀ a i, ¬ (a = 71 ∧ (i = 10 ∨ i = 13 ∨ i = 16 ∨ i = 21 ∨ i = 25)) → K a i = memT J m a i) ∧ NS K g c := by
  have hR2 : RG (memT J m) g := RGf.cong hg (fun i hi => memT_o h07 (by omega)) hR
  have hM2 : MS (memT J m) g c := hM.cong (fun i => memT_a (by decide)) (fun i => memT_a (by decide))
  obtain ⟨K, h1, h2, h3⟩ := m_putNow (d := d) hR2 hg hM2
  refine ⟨K, ?_, h2, h3⟩
  simp (disch := omega) only [r195_0, r195_1, r195_2, r195_5, r195_8, r195_9, r195_12, r195_13, r195_14, r195_17, r195_19, r195_20, r195_22, r195_25, r195_26, r195_27, r195_28, r195_30, r195_33, r195_34, r195_37, r195_39, r195_40, r195_41, r195_42, r195_45, r195_47, r195_48, r195_49, r195_50, r195_51, r195_54, r195_57, r195_58, r195_61, r195_63, r195_65, r195_66, r195_68, r195_69, r195_70, r195_73, r195_75, r195_76, r195_77, r195_78, r195_79, r195_80, r195_81, r195_82, r195_83, r195_86, r195_87, r195_90, r195_91, r195_92, r195_93, r195_94, r195_97, r195_99, r195_100, r195_101, r195_102, r195_103, r195_104, r195_105, r195_106, r195_107, r195_110, r195_113, r195_114, r195_115, r195_116, r195_117, r195_120, r195_121, r195_124, r195_125, r195_126, r195_127, r195_128, r195_129, r195_130, r195_133, r195_135, r195_136, r195_137, r195_138, r195_139, r195_140, r195_141, r195_142, r195_143, r195_146, r195_149, r195_150, r195_153, r195_155, r195_156, r195_157, r195_158, r195_159, r195_160, r195_164, r195_165, ↓if_pos, ↓if_neg, hm, imul_eq, iadd_eq, Int.reduceAdd, Int.reduceMul, Int.add_zero, mset_at]
  rw [r195_161]
  have e : mset (mset (mset (mset (mset (mset J 71 (70 + 5 * m) (J 71 10)) 71 (70 + 5 * m + 1) (J 71 13)) 71 (70 + 5 * m + 2) (J 71 16)) 71 (70 + 5 * m + 3) (J 71 21)) 71 (70 + 5 * m + 3 + 1) (J 71 25)) 71 69 (m + 1) = memT J m := rfl
  rw [e]
  simp (disch := omega) only [r195_0, r195_1, r195_2, r195_5, r195_8, r195_9, r195_12, r195_13, r195_14, r195_17, r195_19, r195_20, r195_22, r195_25, r195_26, r195_27, r195_28, r195_30, r195_33, r195_34, r195_37, r195_39, r195_40, r195_41, r195_42, r195_45, r195_47, r195_48, r195_49, r195_50, r195_51, r195_54, r195_57, r195_58, r195_61, r195_63, r195_65, r195_66, r195_68, r195_69, r195_70, r195_73, r195_75, r195_76, r195_77, r195_78, r195_79, r195_80, r195_81, r195_82, r195_83, r195_86, r195_87, r195_90, r195_91, r195_92, r195_93, r195_94, r195_97, r195_99, r195_100, r195_101, r195_102, r195_103, r195_104, r195_105, r195_106, r195_107, r195_110, r195_113, r195_114, r195_115, r195_116, r195_117, r195_120, r195_121, r195_124, r195_125, r195_126, r195_127, r195_128, r195_129, r195_130, r195_133, r195_135, r195_136, r195_137, r195_138, r195_139, r195_140, r195_141, r195_142, r195_143, r195_146, r195_149, r195_150, r195_153, r195_155, r195_156, r195_157, r195_158, r195_159, r195_160, r195_161, r195_164, r195_165, ↓if_pos, ↓if_neg, h1, Option.bind_some, pushR_n]
theorem pushP_n {q : Int → Int} (h : ¬ 8 ≤ q (-1)) : pushP q c = fun i => if i = -1 then q (-1) + 1 else if i = q (-1) then c else q i := if_neg h
theorem pushP_8 {q : Int → Int} (h : 8 ≤ q (-1)) : pushP q c = fun i => if i = -1 then 8 else if i = 7 then c else q (i + 1) := if_pos h
theorem M_act (hM : MR I s) (hO : OK s) : MA (d + 9) 195 [vI a] I (aAct s a) (sAct s a) := by
  obtain ⟨J0, h1, f8, h3⟩ := m_whyNow (d := d) (a := a) hM.R hM.S hO.W hO.V
  have hz := hO.psz; have hg := hO.W; have hnw := hg.nW3; have hnb := hg.nB2
  obtain ⟨hR, hN, hRM, hP69, hPe⟩ := hM.N
  have e71 : ∀ i, J0 71 i = I 71 i := f8.oth (by omega)
  unfold aAct sAct
  have hlo := why_lo (a := a) hO.W hO.V
  by_cases h : why (gg s) (cd s) a < 0
  · rw [if_pos h, if_pos h]
    have hM0 := hM.fr8 hO f8
    refine ⟨mbump J0 1, ?_, hM0.bump hO (by omega), f8.out.trans (fun a ha i => mbump_o (fun q => ha (by simp [q])) i)⟩
    rw [en195]
    have hr : rso (why (gg s) (cd s) a) ≠ 0 := by rw [rso, if_pos h]; omega
    simp (disch := omega) only [r195_0, r195_1, r195_2, r195_5, r195_8, r195_9, r195_12, r195_13, r195_14, r195_17, r195_19, r195_20, r195_22, r195_25, r195_26, r195_27, r195_28, r195_30, r195_33, r195_34, r195_37, r195_39, r195_40, r195_41, r195_42, r195_45, r195_47, r195_48, r195_49, r195_50, r195_51, r195_54, r195_57, r195_58, r195_61, r195_63, r195_65, r195_66, r195_68, r195_69, r195_70, r195_73, r195_75, r195_76, r195_77, r195_78, r195_79, r195_80, r195_81, r195_82, r195_83, r195_86, r195_87, r195_90, r195_91, r195_92, r195_93, r195_94, r195_97, r195_99, r195_100, r195_101, r195_102, r195_103, r195_104, r195_105, r195_106, r195_107, r195_110, r195_113, r195_114, r195_115, r195_116, r195_117, r195_120, r195_121, r195_124, r195_125, r195_126, r195_127, r195_128, r195_129, r195_130, r195_133, r195_135, r195_136, r195_137, r195_138, r195_139, r195_140, r195_141, r195_142, r195_143, r195_146, r195_149, r195_150, r195_153, r195_155, r195_156, r195_157, r195_158, r195_159, r195_160, r195_161, r195_164, r195_165, ↓if_pos, ↓if_neg, h1, m_no, Option.bind_some, pushR_s]
  · rw [if_neg h, if_neg h]
    have hr : rso (why (gg s) (cd s) a) = 0 := by rw [rso, if_neg h]
    have hMS := h3 (by omega)
    -- what all ways share
    have main : ∀ (m : Int) (J1 : MM) (v2 : AV), 0 ≤ m ∧ m ≤ 7 → J1 71 69 = m → (∀ j, ¬ (69 ≤ j ∧ j < 110) → J1 71 j = I 71 j) → (∀ a, a ≠ 71 → ∀ j, J1 a j = J0 a j) → (∀ k, 0 ≤ k → k < m → ∀ j, 0 ≤ j → j < 5 → J1 71 (70 + 5 * k + j) = I 71 (70 + 5 * (k + (if 8 ≤ s 3 3 (-1) then 1 else 0)) + j)) → (m = if 8 ≤ s 3 3 (-1) then 7 else s 3 3 (-1)) → ∃ K, runs (call (d + 8)) 195 66 [vR 70, vI a, v2, vR 0] [] J1 = some (some (vI 1), K) ∧ MR K (up (setc s (why (gg s) (cd s) a)) 3 3 (pushP (s 3 3) (cd s))) ∧ OUT MC I K := by
      intro m J1 v2 h07 hm o71 oa he hmz
      have hR1 : RG J1 (gg s) := RGf.cong hg (fun i hi => o71 i (by omega)) hR
      have hM1 : MS J1 (gg s) (why (gg s) (cd s) a) := hMS.cong (oa 77 (by decide)) (oa 78 (by decide))
      obtain ⟨K, q1, q2, q3⟩ := act_tail (d := d + 6) (a := a) v2 hm h07 hR1 hg hM1
      have oK : ∀ b, b ≠ 71 → ∀ i, K b i = J0 b i := fun b hb i => by rw [q2 b i (by omega), memT_a hb]; exact oa b hb i
      refine ⟨K, q1, ?_, ?_⟩
      · have e8 : ∀ b i, (b = 72 ∨ b = 73 ∨ b = 74 ∨ b = 75 ∨ b = 76 ∨ b = 84 ∨ (b = 70 ∧ (i = 6 ∨ i = 20))) → K b i = I b i := fun b i hb => by
          rw [oK b (by omega) i]
          exact f8 b i (by omega) (by omega) (by omega) (by omega) (by omega)
        refine hM.now hO e8 _ rfl rfl rfl rfl rfl rfl rfl rfl ⟨?_, q3, ?_, ?_⟩
        · exact RGf.cong hg (fun i hi => by rw [q2 71 i (by omega), memT_o h07 (by omega)]; exact o71 i (by omega)) hR
        · exact RMf.cong hO.rsz.2 (fun i hi => by rw [q2 71 i (by omega), memT_o h07 (by omega)]; exact o71 i (by omega)) hRM
        · show PMf (K 71) (gg s) (pushP (s 3 3) (cd s))
          have hlast : (∀ w, 0 ≤ w → w < (gg s).nW → K 71 (70 + 5 * m + w) = wAt (cd s) w) ∧ (∀ b, 0 ≤ b → b < (gg s).nB → K 71 (70 + 5 * m + 3 + b) = lie (bAt (cd s) b)) := by
            refine ⟨fun w w0 w1 => ?_, fun b b0 b1 => ?_⟩
            · rw [q2 71 _ (by omega), memT_w h07 (by omega), o71 _ (by omega)]; exact hN.1 w w0 w1
            · rw [q2 71 _ (by omega), memT_b h07 (by omega), o71 _ (by omega)]; exact hN.2 b b0 b1
          have hold : ∀ k, 0 ≤ k → k < m → ∀ j, 0 ≤ j → j < 5 → K 71 (70 + 5 * k + j) = I 71 (70 + 5 * (k + (if 8 ≤ s 3 3 (-1) then 1 else 0)) + j) := fun k k0 k1 j j0 j1 => by
            rw [q2 71 _ (by omega), memT_e h07 ⟨k0, k1⟩ ⟨j0, j1⟩]; exact he k k0 k1 j j0 j1
          have h69 : K 71 69 = m + 1 := by rw [q2 71 _ (by omega), memT_69]
          by_cases h8 : 8 ≤ s 3 3 (-1)
          · rw [pushP_8 h8]; rw [if_pos h8] at hmz; subst hmz
            refine ⟨h69, fun k k0 k1 => ?_⟩
            simp only [if_true] at k1
            by_cases hk : k = 7
            · subst hk; simpa using hlast
            · have hq := hPe (k + 1) (by omega) (by omega)
              have e2 : (if k = -1 then (8 : Int) else if k = 7 then cd s else s 3 3 (k + 1)) = s 3 3 (k + 1) := by rw [if_neg (by omega), if_neg hk]
              simp only [e2]
              refine ⟨fun w w0 w1 => ?_, fun b b0 b1 => ?_⟩
              · rw [hold k k0 (by omega) w w0 (by omega), if_pos h8]; exact hq.1 w w0 w1
              · have := hold k k0 (by omega) (3 + b) (by omega) (by omega)
                rw [if_pos h8, ← Int.add_assoc, ← Int.add_assoc] at this
                rw [this]; exact hq.2 b b0 b1
          · rw [pushP_n h8]; rw [if_neg h8] at hmz; subst hmz
            refine ⟨h69, fun k k0 k1 => ?_⟩
            simp only [if_true] at k1
            by_cases hk : k = s 3 3 (-1)
            · have e2 : (if k = -1 then s 3 3 (-1) + 1 else if k = s 3 3 (-1) then cd s else s 3 3 k) = cd s := by rw [if_neg (by omega), if_pos hk]
              simp only [e2]; rw [hk]; exact hlast
            · have hq := hPe k k0 (by omega)
              have e2 : (if k = -1 then s 3 3 (-1) + 1 else if k = s 3 3 (-1) then cd s else s 3 3 k) = s 3 3 k := by rw [if_neg (by omega), if_neg hk]
              simp only [e2]
              refine ⟨fun w w0 w1 => ?_, fun b b0 b1 => ?_⟩
              · rw [hold k k0 (by omega) w w0 (by omega), if_neg h8, Int.add_zero]; exact hq.1 w w0 w1
              · have := hold k k0 (by omega) (3 + b) (by omega) (by omega)
                rw [if_neg h8, ← Int.add_assoc, ← Int.add_assoc, Int.add_zero] at this
                rw [this]; exact hq.2 b b0 b1
      · intro b hb i
        rw [oK b (fun q => hb (by simp [q])) i]; exact f8.out b hb i
    by_cases h8 : 8 ≤ s 3 3 (-1)
    · have h69 : J0 71 69 = 8 := by rw [e71]; have : I 71 69 = s 3 3 (-1) := hP69; omega
      obtain ⟨K, k1, k2, k3, k4⟩ := act_loop (I := J0) (d := d + 8) a (vR 0) 35 0 J0 (by omega) (by omega) (fun j j0 j1 => by omega) (fun j _ => rfl) (fun a _ j => rfl)
      obtain ⟨L, l1, l2, l3⟩ := main 7 (mset K 71 69 7) (vI 35) (by omega) (by rw [mset_at, if_pos ⟨rfl, rfl⟩]) (fun j hj => by rw [mset_at, if_neg (by omega), k3 j (by omega)]; exact e71 j) (fun a ha j => by rw [mset_at, if_neg (fun q => ha q.1)]; exact k4 a ha j) (fun k k0 k1 j j0 j1 => by
        rw [mset_at, if_neg (by omega), k2 _ (by omega) (by omega), if_pos h8, e71]; congr 1; omega) (by rw [if_pos h8])
      refine ⟨L, ?_, l2, l3⟩
      rw [en195]
      simp (disch := omega) only [r195_0, r195_1, r195_2, r195_5, r195_8, r195_9, r195_12, r195_13, r195_14, r195_17, r195_19, r195_20, r195_22, r195_25, r195_26, r195_28, r195_30, r195_33, r195_34, r195_37, r195_39, r195_40, r195_41, r195_42, r195_45, r195_47, r195_48, r195_49, r195_50, r195_51, r195_54, r195_57, r195_58, r195_61, r195_63, r195_65, r195_66, r195_68, r195_69, r195_70, r195_73, r195_75, r195_76, r195_77, r195_78, r195_79, r195_80, r195_81, r195_82, r195_83, r195_86, r195_87, r195_90, r195_91, r195_92, r195_93, r195_94, r195_97, r195_99, r195_100, r195_101, r195_102, r195_103, r195_104, r195_105, r195_106, r195_107, r195_110, r195_113, r195_114, r195_115, r195_116, r195_117, r195_120, r195_121, r195_124, r195_125, r195_126, r195_127, r195_128, r195_129, r195_130, r195_133, r195_135, r195_136, r195_137, r195_138, r195_139, r195_140, r195_141, r195_142, r195_143, r195_146, r195_149, r195_150, r195_153, r195_155, r195_156, r195_157, r195_158, r195_159, r195_160, r195_161, r195_164, r195_165, ↓if_pos, ↓if_neg, h1, hr, h69, Option.bind_some, pushR_s]
      rw [k1]
      simp (disch := omega) only [r195_0, r195_1, r195_2, r195_5, r195_8, r195_9, r195_12, r195_13, r195_14, r195_17, r195_19, r195_20, r195_22, r195_25, r195_26, r195_27, r195_28, r195_30, r195_33, r195_34, r195_37, r195_39, r195_40, r195_41, r195_42, r195_45, r195_47, r195_48, r195_49, r195_50, r195_51, r195_54, r195_57, r195_58, r195_61, r195_63, r195_65, r195_68, r195_69, r195_70, r195_73, r195_75, r195_76, r195_77, r195_78, r195_79, r195_80, r195_81, r195_82, r195_83, r195_86, r195_87, r195_90, r195_91, r195_92, r195_93, r195_94, r195_97, r195_99, r195_100, r195_101, r195_102, r195_103, r195_104, r195_105, r195_106, r195_107, r195_110, r195_113, r195_114, r195_115, r195_116, r195_117, r195_120, r195_121, r195_124, r195_125, r195_126, r195_127, r195_128, r195_129, r195_130, r195_133, r195_135, r195_136, r195_137, r195_138, r195_139, r195_140, r195_141, r195_142, r195_143, r195_146, r195_149, r195_150, r195_153, r195_155, r195_156, r195_157, r195_158, r195_159, r195_160, r195_161, r195_164, r195_165, ↓if_pos, ↓if_neg]
      exact l1
    · have h69 : ¬ J0 71 69 = 8 := by rw [e71]; have : I 71 69 = s 3 3 (-1) := hP69; omega
      obtain ⟨L, l1, l2, l3⟩ := main (s 3 3 (-1)) J0 (vR 0) (by omega) (by rw [e71]; exact hP69) (fun j hj => e71 j) (fun a ha j => rfl) (fun k k0 k1 j j0 j1 => by rw [if_neg h8, Int.add_zero]; exact e71 _) (by rw [if_neg h8])
      refine ⟨L, ?_, l2, l3⟩
      rw [en195]
      simp (disch := omega) only [r195_0, r195_1, r195_2, r195_5, r195_8, r195_9, r195_12, r195_13, r195_14, r195_17, r195_19, r195_20, r195_22, r195_25, r195_26, r195_27, r195_28, r195_30, r195_33, r195_34, r195_37, r195_39, r195_40, r195_41, r195_42, r195_45, r195_47, r195_48, r195_49, r195_50, r195_51, r195_54, r195_57, r195_58, r195_61, r195_63, r195_65, r195_68, r195_69, r195_70, r195_73, r195_75, r195_76, r195_77, r195_78, r195_79, r195_80, r195_81, r195_82, r195_83, r195_86, r195_87, r195_90, r195_91, r195_92, r195_93, r195_94, r195_97, r195_99, r195_100, r195_101, r195_102, r195_103, r195_104, r195_105, r195_106, r195_107, r195_110, r195_113, r195_114, r195_115, r195_116, r195_117, r195_120, r195_121, r195_124, r195_125, r195_126, r195_127, r195_128, r195_129, r195_130, r195_133, r195_135, r195_136, r195_137, r195_138, r195_139, r195_140, r195_141, r195_142, r195_143, r195_146, r195_149, r195_150, r195_153, r195_155, r195_156, r195_157, r195_158, r195_159, r195_160, r195_161, r195_164, r195_165, ↓if_pos, ↓if_neg, h1, hr, Option.bind_some, pushR_s]
      exact l1
end
