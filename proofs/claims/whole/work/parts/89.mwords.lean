/-! The reader of the model: words. -/
section
variable {d : Nat} {I J K : MM} {t : Int → Int} {k : Int}
theorem m_word89 (hT : TM I t) (hn : 0 ≤ t (-1) ∧ t (-1) ≤ 200) {s : Int} (h21 : I 70 21 = s) (hs : 0 ≤ s) (hl : s + 4 ≤ t (-1)) : ∀ (f : Nat) (i : Int), 0 ≤ i → i + f = 4 → runs (call d) 220 49 [vR 70, vI 108, vI 97, vI 115, vI 116, vI 0, vI 0, vI 4, vI 1, vI i] [] I = some (some (vI (if wdR t s 89 f i = true then 1 else 0)), I) := by
  intro f
  induction f with
  | zero =>
    intro i i0 hi
    simp (disch := omega) only [r220_0, r220_2, r220_5, r220_6, r220_9, r220_11, r220_14, r220_15, r220_18, r220_20, r220_22, r220_23, r220_26, r220_27, r220_30, r220_31, r220_34, r220_36, r220_39, r220_40, r220_43, r220_44, r220_46, r220_47, r220_49, r220_51, r220_53, r220_56, r220_58, r220_61, r220_62, r220_65, r220_66, r220_69, r220_71, r220_72, r220_73, r220_75, r220_78, r220_79, r220_82, r220_84, r220_85, r220_88, r220_89, r220_92, r220_94, r220_95, r220_98, r220_99, r220_102, r220_104, r220_105, r220_108, r220_110, r220_113, r220_115, r220_116, r220_119, r220_121, r220_124, r220_126, r220_129, r220_130, r220_133, r220_134, r220_136, r220_139, r220_142, r220_144, ↓if_pos, ↓if_neg, wdR]
    simp
  | succ f ih =>
    intro i i0 hi
    have hb := hT.2 (s + i) (by omega) (by omega)
    rw [wdR]
    have hi6 : i = 0 ∨ i = 1 ∨ i = 2 ∨ i = 3 ∨ i = 4 ∨ i = 5 := by omega
    by_cases h : t (s + i) = wd 89 i
    · rw [if_pos h, ← ih (i + 1) (by omega) (by omega), r220_49]
      rcases hi6 with rfl | rfl | rfl | rfl | rfl | rfl <;> simp only [wd, wdL] at h <;> first | omega | (rw [h] at hb; simp at hb; simp (disch := omega) only [r220_0, r220_2, r220_5, r220_6, r220_9, r220_11, r220_14, r220_15, r220_18, r220_20, r220_22, r220_23, r220_26, r220_27, r220_30, r220_31, r220_34, r220_36, r220_39, r220_40, r220_43, r220_44, r220_46, r220_47, r220_51, r220_53, r220_56, r220_58, r220_61, r220_62, r220_65, r220_66, r220_69, r220_71, r220_72, r220_73, r220_75, r220_78, r220_79, r220_82, r220_84, r220_85, r220_88, r220_89, r220_92, r220_94, r220_95, r220_98, r220_99, r220_102, r220_104, r220_105, r220_108, r220_110, r220_113, r220_115, r220_116, r220_119, r220_121, r220_124, r220_126, r220_129, r220_130, r220_133, r220_134, r220_136, r220_139, r220_142, r220_144, h21, hb, iadd_eq, ↓if_pos, ↓if_neg, Int.add_zero])
    · rw [if_neg h]
      generalize t (s + i) = v at *
      rcases hi6 with rfl | rfl | rfl | rfl | rfl | rfl <;> simp only [wd, wdL] at h <;> first | omega | (simp at hb h; simp (disch := first | omega | exact h) only [r220_0, r220_2, r220_5, r220_6, r220_9, r220_11, r220_14, r220_15, r220_18, r220_20, r220_22, r220_23, r220_26, r220_27, r220_30, r220_31, r220_34, r220_36, r220_39, r220_40, r220_43, r220_44, r220_46, r220_47, r220_49, r220_51, r220_53, r220_56, r220_58, r220_61, r220_62, r220_65, r220_66, r220_69, r220_71, r220_72, r220_73, r220_75, r220_78, r220_79, r220_82, r220_84, r220_85, r220_88, r220_89, r220_92, r220_94, r220_95, r220_98, r220_99, r220_102, r220_104, r220_105, r220_108, r220_110, r220_113, r220_115, r220_116, r220_119, r220_121, r220_124, r220_126, r220_129, r220_130, r220_133, r220_134, r220_136, r220_139, r220_142, r220_144, h21, hb, iadd_eq, ↓if_pos, ↓if_neg, Int.add_zero]; simp)
theorem m_word90 (hT : TM I t) (hn : 0 ≤ t (-1) ∧ t (-1) ≤ 200) {s : Int} (h21 : I 70 21 = s) (hs : 0 ≤ s) (hl : s + 6 ≤ t (-1)) : ∀ (f : Nat) (i : Int), 0 ≤ i → i + f = 6 → runs (call d) 220 49 [vR 70, vI 105, vI 115, vI 108, vI 97, vI 110, vI 100, vI 6, vI 1, vI i] [] I = some (some (vI (if wdR t s 90 f i = true then 1 else 0)), I) := by
  intro f
  induction f with
  | zero =>
    intro i i0 hi
    simp (disch := omega) only [r220_0, r220_2, r220_5, r220_6, r220_9, r220_11, r220_14, r220_15, r220_18, r220_20, r220_22, r220_23, r220_26, r220_27, r220_30, r220_31, r220_34, r220_36, r220_39, r220_40, r220_43, r220_44, r220_46, r220_47, r220_49, r220_51, r220_53, r220_56, r220_58, r220_61, r220_62, r220_65, r220_66, r220_69, r220_71, r220_72, r220_73, r220_75, r220_78, r220_79, r220_82, r220_84, r220_85, r220_88, r220_89, r220_92, r220_94, r220_95, r220_98, r220_99, r220_102, r220_104, r220_105, r220_108, r220_110, r220_113, r220_115, r220_116, r220_119, r220_121, r220_124, r220_126, r220_129, r220_130, r220_133, r220_134, r220_136, r220_139, r220_142, r220_144, ↓if_pos, ↓if_neg, wdR]
    simp
  | succ f ih =>
    intro i i0 hi
    have hb := hT.2 (s + i) (by omega) (by omega)
    rw [wdR]
    have hi6 : i = 0 ∨ i = 1 ∨ i = 2 ∨ i = 3 ∨ i = 4 ∨ i = 5 := by omega
    by_cases h : t (s + i) = wd 90 i
    · rw [if_pos h, ← ih (i + 1) (by omega) (by omega), r220_49]
      rcases hi6 with rfl | rfl | rfl | rfl | rfl | rfl <;> simp only [wd, wdL] at h <;> first | omega | (rw [h] at hb; simp at hb; simp (disch := omega) only [r220_0, r220_2, r220_5, r220_6, r220_9, r220_11, r220_14, r220_15, r220_18, r220_20, r220_22, r220_23, r220_26, r220_27, r220_30, r220_31, r220_34, r220_36, r220_39, r220_40, r220_43, r220_44, r220_46, r220_47, r220_51, r220_53, r220_56, r220_58, r220_61, r220_62, r220_65, r220_66, r220_69, r220_71, r220_72, r220_73, r220_75, r220_78, r220_79, r220_82, r220_84, r220_85, r220_88, r220_89, r220_92, r220_94, r220_95, r220_98, r220_99, r220_102, r220_104, r220_105, r220_108, r220_110, r220_113, r220_115, r220_116, r220_119, r220_121, r220_124, r220_126, r220_129, r220_130, r220_133, r220_134, r220_136, r220_139, r220_142, r220_144, h21, hb, iadd_eq, ↓if_pos, ↓if_neg, Int.add_zero])
    · rw [if_neg h]
      generalize t (s + i) = v at *
      rcases hi6 with rfl | rfl | rfl | rfl | rfl | rfl <;> simp only [wd, wdL] at h <;> first | omega | (simp at hb h; simp (disch := first | omega | exact h) only [r220_0, r220_2, r220_5, r220_6, r220_9, r220_11, r220_14, r220_15, r220_18, r220_20, r220_22, r220_23, r220_26, r220_27, r220_30, r220_31, r220_34, r220_36, r220_39, r220_40, r220_43, r220_44, r220_46, r220_47, r220_49, r220_51, r220_53, r220_56, r220_58, r220_61, r220_62, r220_65, r220_66, r220_69, r220_71, r220_72, r220_73, r220_75, r220_78, r220_79, r220_82, r220_84, r220_85, r220_88, r220_89, r220_92, r220_94, r220_95, r220_98, r220_99, r220_102, r220_104, r220_105, r220_108, r220_110, r220_113, r220_115, r220_116, r220_119, r220_121, r220_124, r220_126, r220_129, r220_130, r220_133, r220_134, r220_136, r220_139, r220_142, r220_144, h21, hb, iadd_eq, ↓if_pos, ↓if_neg, Int.add_zero]; simp)
theorem m_word91 (hT : TM I t) (hn : 0 ≤ t (-1) ∧ t (-1) ≤ 200) {s : Int} (h21 : I 70 21 = s) (hs : 0 ≤ s) (hl : s + 6 ≤ t (-1)) : ∀ (f : Nat) (i : Int), 0 ≤ i → i + f = 6 → runs (call d) 220 49 [vR 70, vI 119, vI 97, vI 108, vI 107, vI 101, vI 114, vI 6, vI 1, vI i] [] I = some (some (vI (if wdR t s 91 f i = true then 1 else 0)), I) := by
  intro f
  induction f with
  | zero =>
    intro i i0 hi
    simp (disch := omega) only [r220_0, r220_2, r220_5, r220_6, r220_9, r220_11, r220_14, r220_15, r220_18, r220_20, r220_22, r220_23, r220_26, r220_27, r220_30, r220_31, r220_34, r220_36, r220_39, r220_40, r220_43, r220_44, r220_46, r220_47, r220_49, r220_51, r220_53, r220_56, r220_58, r220_61, r220_62, r220_65, r220_66, r220_69, r220_71, r220_72, r220_73, r220_75, r220_78, r220_79, r220_82, r220_84, r220_85, r220_88, r220_89, r220_92, r220_94, r220_95, r220_98, r220_99, r220_102, r220_104, r220_105, r220_108, r220_110, r220_113, r220_115, r220_116, r220_119, r220_121, r220_124, r220_126, r220_129, r220_130, r220_133, r220_134, r220_136, r220_139, r220_142, r220_144, ↓if_pos, ↓if_neg, wdR]
    simp
  | succ f ih =>
    intro i i0 hi
    have hb := hT.2 (s + i) (by omega) (by omega)
    rw [wdR]
    have hi6 : i = 0 ∨ i = 1 ∨ i = 2 ∨ i = 3 ∨ i = 4 ∨ i = 5 := by omega
    by_cases h : t (s + i) = wd 91 i
    · rw [if_pos h, ← ih (i + 1) (by omega) (by omega), r220_49]
      rcases hi6 with rfl | rfl | rfl | rfl | rfl | rfl <;> simp only [wd, wdL] at h <;> first | omega | (rw [h] at hb; simp at hb; simp (disch := omega) only [r220_0, r220_2, r220_5, r220_6, r220_9, r220_11, r220_14, r220_15, r220_18, r220_20, r220_22, r220_23, r220_26, r220_27, r220_30, r220_31, r220_34, r220_36, r220_39, r220_40, r220_43, r220_44, r220_46, r220_47, r220_51, r220_53, r220_56, r220_58, r220_61, r220_62, r220_65, r220_66, r220_69, r220_71, r220_72, r220_73, r220_75, r220_78, r220_79, r220_82, r220_84, r220_85, r220_88, r220_89, r220_92, r220_94, r220_95, r220_98, r220_99, r220_102, r220_104, r220_105, r220_108, r220_110, r220_113, r220_115, r220_116, r220_119, r220_121, r220_124, r220_126, r220_129, r220_130, r220_133, r220_134, r220_136, r220_139, r220_142, r220_144, h21, hb, iadd_eq, ↓if_pos, ↓if_neg, Int.add_zero])
    · rw [if_neg h]
      generalize t (s + i) = v at *
      rcases hi6 with rfl | rfl | rfl | rfl | rfl | rfl <;> simp only [wd, wdL] at h <;> first | omega | (simp at hb h; simp (disch := first | omega | exact h) only [r220_0, r220_2, r220_5, r220_6, r220_9, r220_11, r220_14, r220_15, r220_18, r220_20, r220_22, r220_23, r220_26, r220_27, r220_30, r220_31, r220_34, r220_36, r220_39, r220_40, r220_43, r220_44, r220_46, r220_47, r220_49, r220_51, r220_53, r220_56, r220_58, r220_61, r220_62, r220_65, r220_66, r220_69, r220_71, r220_72, r220_73, r220_75, r220_78, r220_79, r220_82, r220_84, r220_85, r220_88, r220_89, r220_92, r220_94, r220_95, r220_98, r220_99, r220_102, r220_104, r220_105, r220_108, r220_110, r220_113, r220_115, r220_116, r220_119, r220_121, r220_124, r220_126, r220_129, r220_130, r220_133, r220_134, r220_136, r220_139, r220_142, r220_144, h21, hb, iadd_eq, ↓if_pos, ↓if_neg, Int.add_zero]; simp)
theorem m_word92 (hT : TM I t) (hn : 0 ≤ t (-1) ∧ t (-1) ≤ 200) {s : Int} (h21 : I 70 21 = s) (hs : 0 ≤ s) (hl : s + 5 ≤ t (-1)) : ∀ (f : Nat) (i : Int), 0 ≤ i → i + f = 5 → runs (call d) 220 49 [vR 70, vI 98, vI 111, vI 97, vI 114, vI 100, vI 0, vI 5, vI 1, vI i] [] I = some (some (vI (if wdR t s 92 f i = true then 1 else 0)), I) := by
  intro f
  induction f with
  | zero =>
    intro i i0 hi
    simp (disch := omega) only [r220_0, r220_2, r220_5, r220_6, r220_9, r220_11, r220_14, r220_15, r220_18, r220_20, r220_22, r220_23, r220_26, r220_27, r220_30, r220_31, r220_34, r220_36, r220_39, r220_40, r220_43, r220_44, r220_46, r220_47, r220_49, r220_51, r220_53, r220_56, r220_58, r220_61, r220_62, r220_65, r220_66, r220_69, r220_71, r220_72, r220_73, r220_75, r220_78, r220_79, r220_82, r220_84, r220_85, r220_88, r220_89, r220_92, r220_94, r220_95, r220_98, r220_99, r220_102, r220_104, r220_105, r220_108, r220_110, r220_113, r220_115, r220_116, r220_119, r220_121, r220_124, r220_126, r220_129, r220_130, r220_133, r220_134, r220_136, r220_139, r220_142, r220_144, ↓if_pos, ↓if_neg, wdR]
    simp
  | succ f ih =>
    intro i i0 hi
    have hb := hT.2 (s + i) (by omega) (by omega)
    rw [wdR]
    have hi6 : i = 0 ∨ i = 1 ∨ i = 2 ∨ i = 3 ∨ i = 4 ∨ i = 5 := by omega
    by_cases h : t (s + i) = wd 92 i
    · rw [if_pos h, ← ih (i + 1) (by omega) (by omega), r220_49]
      rcases hi6 with rfl | rfl | rfl | rfl | rfl | rfl <;> simp only [wd, wdL] at h <;> first | omega | (rw [h] at hb; simp at hb; simp (disch := omega) only [r220_0, r220_2, r220_5, r220_6, r220_9, r220_11, r220_14, r220_15, r220_18, r220_20, r220_22, r220_23, r220_26, r220_27, r220_30, r220_31, r220_34, r220_36, r220_39, r220_40, r220_43, r220_44, r220_46, r220_47, r220_51, r220_53, r220_56, r220_58, r220_61, r220_62, r220_65, r220_66, r220_69, r220_71, r220_72, r220_73, r220_75, r220_78, r220_79, r220_82, r220_84, r220_85, r220_88, r220_89, r220_92, r220_94, r220_95, r220_98, r220_99, r220_102, r220_104, r220_105, r220_108, r220_110, r220_113, r220_115, r220_116, r220_119, r220_121, r220_124, r220_126, r220_129, r220_130, r220_133, r220_134, r220_136, r220_139, r220_142, r220_144, h21, hb, iadd_eq, ↓if_pos, ↓if_neg, Int.add_zero])
    · rw [if_neg h]
      generalize t (s + i) = v at *
      rcases hi6 with rfl | rfl | rfl | rfl | rfl | rfl <;> simp only [wd, wdL] at h <;> first | omega | (simp at hb h; simp (disch := first | omega | exact h) only [r220_0, r220_2, r220_5, r220_6, r220_9, r220_11, r220_14, r220_15, r220_18, r220_20, r220_22, r220_23, r220_26, r220_27, r220_30, r220_31, r220_34, r220_36, r220_39, r220_40, r220_43, r220_44, r220_46, r220_47, r220_49, r220_51, r220_53, r220_56, r220_58, r220_61, r220_62, r220_65, r220_66, r220_69, r220_71, r220_72, r220_73, r220_75, r220_78, r220_79, r220_82, r220_84, r220_85, r220_88, r220_89, r220_92, r220_94, r220_95, r220_98, r220_99, r220_102, r220_104, r220_105, r220_108, r220_110, r220_113, r220_115, r220_116, r220_119, r220_121, r220_124, r220_126, r220_129, r220_130, r220_133, r220_134, r220_136, r220_139, r220_142, r220_144, h21, hb, iadd_eq, ↓if_pos, ↓if_neg, Int.add_zero]; simp)
end
