/-! The model's acts, further. -/
theorem mset_at (I : MM) (a : Nat) (i v : Int) (b : Nat) (j : Int) : mset I a i v b j = if b = a ∧ j = i then v else I b j := rfl
def AF (I : MM) (k w x y : Int) : Prop := I 70 9 = k ∧ I 70 10 = w ∧ I 70 11 = x ∧ I 70 12 = y
theorem on_covi (g : G) (c b : Int) : (if onIt g c b then (1 : Int) else 0) = if (0 < g.nW ∧ covi g c b (wAt c 0) = 1) ∨ (1 < g.nW ∧ covi g c b (wAt c 1) = 1) ∨ (2 < g.nW ∧ covi g c b (wAt c 2) = 1) then 1 else 0 := by
  have e : ∀ w, covi g c b (wAt c w) = 1 ↔ cov g c b (wAt c w) := fun w => by
    unfold covi; split
    · rename_i h; exact iff_of_true rfl h
    · rename_i h; exact iff_of_false (by decide) h
  simp only [on_def, e]
theorem covi_c (g : G) (c b p : Int) : covi g c b p = 1 ∨ covi g c b p = 0 := by unfold covi; split <;> simp
theorem frm_c (g : G) (c p : Int) : frm g c p = 1 ∧ HB (firm g c p) ∨ frm g c p = 0 ∧ HB (¬ firm g c p) := by
  unfold frm; split
  · exact Or.inl ⟨rfl, by assumption⟩
  · exact Or.inr ⟨rfl, by assumption⟩
def memS (I : MM) (a : Int) : MM := mset (mset (mset (mset I 70 9 (a / 256)) 70 10 (a / 64 % 4)) 70 11 (a / 8 % 8)) 70 12 (a % 8)
def memR (I : MM) : MM := mset (mset (mset (mset (mset I 79 0 (I 77 0)) 79 1 (I 77 1)) 79 2 (I 77 2)) 80 0 (I 78 0)) 80 1 (I 78 1)
def memB (I : MM) : MM := mset (mset (mset (mset (mset I 77 0 (I 79 0)) 77 1 (I 79 1)) 77 2 (I 79 2)) 78 0 (I 80 0)) 78 1 (I 80 1)
section
variable {d : Nat} {I : MM} {g : G} {a c w x y b p v lo hi k : Int}
theorem m_isOnBoard (hR : RG I g) (hM : MS I g c) (hg : WG g) (h0 : 0 ≤ b) (h1 : b < g.nB) : call (d + 4) 181 [vR 70, vI b] I = some (some (vI (if onIt g c b then 1 else 0)), I) := by
  rw [en181, on_covi]
  have e0 := hM.1 0 (by omega); have e1 := hM.1 1 (by omega); have e2 := hM.1 2 (by omega)
  rcases hg.nWc with hn | hn | hn | hn
  · simp (disch := omega) only [r181_0, r181_1, r181_2, r181_3, r181_4, r181_5, r181_6, r181_9, r181_12, r181_13, r181_16, r181_17, r181_18, r181_19, r181_22, r181_23, r181_24, r181_27, r181_30, r181_31, r181_34, r181_35, r181_36, r181_39, r181_42, r181_43, ↓if_pos, ↓if_neg, m_walkers hR, Option.bind_some, pushR_s]
  · rcases covi_c g c b (wAt c 0) with k0 | k0 <;>
    simp (disch := omega) only [r181_0, r181_1, r181_2, r181_3, r181_4, r181_5, r181_6, r181_9, r181_12, r181_13, r181_16, r181_17, r181_18, r181_19, r181_22, r181_23, r181_24, r181_27, r181_30, r181_31, r181_34, r181_35, r181_36, r181_39, r181_42, r181_43, ↓if_pos, ↓if_neg, m_walkers hR, e0, m_coversi hR hM hg, k0, Option.bind_some, pushR_s, iadd_eq, Int.reduceAdd] <;> simp [hn]
  · rcases covi_c g c b (wAt c 0) with k0 | k0 <;> rcases covi_c g c b (wAt c 1) with k1 | k1 <;>
    simp (disch := omega) only [r181_0, r181_1, r181_2, r181_3, r181_4, r181_5, r181_6, r181_9, r181_12, r181_13, r181_16, r181_17, r181_18, r181_19, r181_22, r181_23, r181_24, r181_27, r181_30, r181_31, r181_34, r181_35, r181_36, r181_39, r181_42, r181_43, ↓if_pos, ↓if_neg, m_walkers hR, e0, e1, m_coversi hR hM hg, k0, k1, Option.bind_some, pushR_s, iadd_eq, Int.reduceAdd] <;> simp [hn]
  · rcases covi_c g c b (wAt c 0) with k0 | k0 <;> rcases covi_c g c b (wAt c 1) with k1 | k1 <;> rcases covi_c g c b (wAt c 2) with k2 | k2 <;>
    simp (disch := omega) only [r181_0, r181_1, r181_2, r181_3, r181_4, r181_5, r181_6, r181_9, r181_12, r181_13, r181_16, r181_17, r181_18, r181_19, r181_22, r181_23, r181_24, r181_27, r181_30, r181_31, r181_34, r181_35, r181_36, r181_39, r181_42, r181_43, ↓if_pos, ↓if_neg, m_walkers hR, e0, e1, e2, m_coversi hR hM hg, k0, k1, k2, Option.bind_some, pushR_s, iadd_eq, Int.reduceAdd] <;> simp [hn]
theorem m_anotherAt (hR : RG I g) (hM : MS I g c) (hg : WG g) (hw : 0 ≤ w ∧ w < 3) (hne : wAt c w ≠ p) : call (d + 2) 182 [vR 70, vI p, vI w] I = some (some (vI (if anyAt g c p then 1 else 0)), I) := by
  rw [en182]
  have e0 := hM.1 0 (by omega); have e1 := hM.1 1 (by omega); have e2 := hM.1 2 (by omega)
  rcases hg.nWc with hn | hn | hn | hn
  · simp (disch := omega) only [r182_0, r182_1, r182_2, r182_3, r182_5, r182_7, r182_8, r182_11, r182_14, r182_15, r182_18, r182_20, r182_21, r182_24, r182_25, r182_28, r182_30, r182_31, r182_32, r182_35, r182_36, r182_39, r182_40, r182_41, r182_44, r182_47, r182_48, ↓if_pos, ↓if_neg, m_walkers hR, Option.bind_some, pushR_s]
  · rcases w012 hw with rfl | rfl | rfl <;> (by_cases p0 : wAt c 0 = p) <;>
    first | (exfalso; omega) | (simp (disch := omega) only [r182_0, r182_1, r182_2, r182_3, r182_5, r182_7, r182_8, r182_11, r182_14, r182_15, r182_18, r182_20, r182_21, r182_24, r182_25, r182_28, r182_30, r182_31, r182_32, r182_35, r182_36, r182_39, r182_40, r182_41, r182_44, r182_47, r182_48, ↓if_pos, ↓if_neg, m_walkers hR, e0, Option.bind_some, pushR_s, iadd_eq, Int.reduceAdd])
  · rcases w012 hw with rfl | rfl | rfl <;> (by_cases p0 : wAt c 0 = p) <;> (by_cases p1 : wAt c 1 = p) <;>
    first | (exfalso; omega) | (simp (disch := omega) only [r182_0, r182_1, r182_2, r182_3, r182_5, r182_7, r182_8, r182_11, r182_14, r182_15, r182_18, r182_20, r182_21, r182_24, r182_25, r182_28, r182_30, r182_31, r182_32, r182_35, r182_36, r182_39, r182_40, r182_41, r182_44, r182_47, r182_48, ↓if_pos, ↓if_neg, m_walkers hR, e0, e1, Option.bind_some, pushR_s, iadd_eq, Int.reduceAdd])
  · rcases w012 hw with rfl | rfl | rfl <;> (by_cases p0 : wAt c 0 = p) <;> (by_cases p1 : wAt c 1 = p) <;> (by_cases p2 : wAt c 2 = p) <;>
    first | (exfalso; omega) | (simp (disch := omega) only [r182_0, r182_1, r182_2, r182_3, r182_5, r182_7, r182_8, r182_11, r182_14, r182_15, r182_18, r182_20, r182_21, r182_24, r182_25, r182_28, r182_30, r182_31, r182_32, r182_35, r182_36, r182_39, r182_40, r182_41, r182_44, r182_47, r182_48, ↓if_pos, ↓if_neg, m_walkers hR, e0, e1, e2, Option.bind_some, pushR_s, iadd_eq, Int.reduceAdd])
theorem take_tailm (hR : RG I g) (hM : MS I g c) (hg : WG g) (h0 : 0 ≤ b) (h1 : b < g.nB) (hw : 0 ≤ w ∧ w < g.nW) (hl : bAt c b < 8) : runs (call (d + 4)) 183 44 [vR 70, vI w, vI b, vI (g.kd b), vR 0, vR 0, vR 0] [] I = some (some (vI (if (wAt c w = bAt c b - 1 ∨ wAt c w = bAt c b + g.sp b) ∧ (g.kd b = 4 → anyAt g c (if wAt c w = bAt c b - 1 then bAt c b + g.sp b else bAt c b - 1)) then 1 else 0)), I) := by
  have e := hM.2 b h0 h1; rw [lie_n hl] at e; have hnW := hg.nW3
  have ew := hM.1 w hw.1 hw.2; have hn := hg.nB2; have h4 := hg.sp14 h0 h1; have hq := bAt_b c b; have hqw := wAt_b c w
  by_cases h2 : wAt c w = bAt c b - 1
  · have e1 : (if wAt c w = bAt c b - 1 then bAt c b + g.sp b else bAt c b - 1) = bAt c b + g.sp b := if_pos h2
    rw [e1]
    by_cases hk : g.kd b = 4
    · have hA := m_anotherAt (d := d + 2) (p := bAt c b + g.sp b) hR hM hg (w := w) (by omega) (by omega)
      by_cases hy : anyAt g c (bAt c b + g.sp b)
      · rw [if_pos ⟨Or.inl h2, fun _ => hy⟩]; rw [if_pos hy] at hA; clear hy
        simp (disch := omega) only [r183_0, r183_1, r183_4, r183_6, r183_7, r183_8, r183_9, r183_10, r183_11, r183_12, r183_13, r183_14, r183_17, r183_20, r183_21, r183_22, r183_25, r183_28, r183_29, r183_30, r183_33, r183_34, r183_37, r183_38, r183_39, r183_42, r183_43, r183_44, r183_45, r183_48, r183_49, r183_50, r183_51, r183_52, r183_54, r183_55, r183_58, r183_59, r183_60, r183_61, r183_62, r183_65, r183_66, r183_68, r183_69, r183_72, r183_73, r183_74, r183_76, r183_79, r183_80, r183_83, r183_84, r183_85, r183_87, r183_90, r183_91, r183_94, r183_95, r183_97, r183_99, r183_102, r183_103, r183_104, r183_107, r183_108, r183_109, r183_112, r183_113, r183_114, r183_116, r183_119, r183_121, r183_124, r183_126, r183_127, r183_130, r183_133, r183_134, r183_137, r183_138, ↓if_pos, ↓if_neg, e, ew, m_longOfBoard hR hg, isub_eq, iadd_eq, hA, Option.bind_some, pushR_s]
      · rw [if_neg (fun q => hy (q.2 hk))]; rw [if_neg hy] at hA; clear hy
        simp (disch := omega) only [r183_0, r183_1, r183_4, r183_6, r183_7, r183_8, r183_9, r183_10, r183_11, r183_12, r183_13, r183_14, r183_17, r183_20, r183_21, r183_22, r183_25, r183_28, r183_29, r183_30, r183_33, r183_34, r183_37, r183_38, r183_39, r183_42, r183_43, r183_44, r183_45, r183_48, r183_49, r183_50, r183_51, r183_52, r183_54, r183_55, r183_58, r183_59, r183_60, r183_61, r183_62, r183_65, r183_66, r183_68, r183_69, r183_72, r183_73, r183_74, r183_76, r183_79, r183_80, r183_83, r183_84, r183_85, r183_87, r183_90, r183_91, r183_94, r183_95, r183_97, r183_99, r183_102, r183_103, r183_104, r183_107, r183_108, r183_109, r183_112, r183_113, r183_114, r183_116, r183_119, r183_121, r183_124, r183_126, r183_127, r183_130, r183_133, r183_134, r183_137, r183_138, ↓if_pos, ↓if_neg, e, ew, m_longOfBoard hR hg, isub_eq, iadd_eq, hA, Option.bind_some, pushR_s]
    · rw [if_pos ⟨Or.inl h2, fun q => (hk q).elim⟩]
      simp (disch := omega) only [r183_0, r183_1, r183_4, r183_6, r183_7, r183_8, r183_9, r183_10, r183_11, r183_12, r183_13, r183_14, r183_17, r183_20, r183_21, r183_22, r183_25, r183_28, r183_29, r183_30, r183_33, r183_34, r183_37, r183_38, r183_39, r183_42, r183_43, r183_44, r183_45, r183_48, r183_49, r183_50, r183_51, r183_52, r183_54, r183_55, r183_58, r183_59, r183_60, r183_61, r183_62, r183_65, r183_66, r183_68, r183_69, r183_72, r183_73, r183_74, r183_76, r183_79, r183_80, r183_83, r183_84, r183_85, r183_87, r183_90, r183_91, r183_94, r183_95, r183_97, r183_99, r183_102, r183_103, r183_104, r183_107, r183_108, r183_109, r183_112, r183_113, r183_114, r183_116, r183_119, r183_121, r183_124, r183_126, r183_127, r183_130, r183_133, r183_134, r183_137, r183_138, ↓if_pos, ↓if_neg, e, ew, m_longOfBoard hR hg, isub_eq, iadd_eq, Option.bind_some, pushR_s]
  · have e1 : (if wAt c w = bAt c b - 1 then bAt c b + g.sp b else bAt c b - 1) = bAt c b - 1 := if_neg h2
    rw [e1]
    by_cases h3 : wAt c w = bAt c b + g.sp b
    · by_cases hk : g.kd b = 4
      · have hA := m_anotherAt (d := d + 2) (p := bAt c b - 1) hR hM hg (w := w) (by omega) h2
        by_cases hy : anyAt g c (bAt c b - 1)
        · rw [if_pos ⟨Or.inr h3, fun _ => hy⟩]; rw [if_pos hy] at hA; clear hy
          simp (disch := omega) only [r183_0, r183_1, r183_4, r183_6, r183_7, r183_8, r183_9, r183_10, r183_11, r183_12, r183_13, r183_14, r183_17, r183_20, r183_21, r183_22, r183_25, r183_28, r183_29, r183_30, r183_33, r183_34, r183_37, r183_38, r183_39, r183_42, r183_43, r183_44, r183_45, r183_48, r183_49, r183_50, r183_51, r183_52, r183_54, r183_55, r183_58, r183_59, r183_60, r183_61, r183_62, r183_65, r183_66, r183_68, r183_69, r183_72, r183_73, r183_74, r183_76, r183_79, r183_80, r183_83, r183_84, r183_85, r183_87, r183_90, r183_91, r183_94, r183_95, r183_97, r183_99, r183_102, r183_103, r183_104, r183_107, r183_108, r183_109, r183_112, r183_113, r183_114, r183_116, r183_119, r183_121, r183_124, r183_126, r183_127, r183_130, r183_133, r183_134, r183_137, r183_138, ↓if_pos, ↓if_neg, e, ew, m_longOfBoard hR hg, isub_eq, iadd_eq, hA, Option.bind_some, pushR_s]
        · rw [if_neg (fun q => hy (q.2 hk))]; rw [if_neg hy] at hA; clear hy
          simp (disch := omega) only [r183_0, r183_1, r183_4, r183_6, r183_7, r183_8, r183_9, r183_10, r183_11, r183_12, r183_13, r183_14, r183_17, r183_20, r183_21, r183_22, r183_25, r183_28, r183_29, r183_30, r183_33, r183_34, r183_37, r183_38, r183_39, r183_42, r183_43, r183_44, r183_45, r183_48, r183_49, r183_50, r183_51, r183_52, r183_54, r183_55, r183_58, r183_59, r183_60, r183_61, r183_62, r183_65, r183_66, r183_68, r183_69, r183_72, r183_73, r183_74, r183_76, r183_79, r183_80, r183_83, r183_84, r183_85, r183_87, r183_90, r183_91, r183_94, r183_95, r183_97, r183_99, r183_102, r183_103, r183_104, r183_107, r183_108, r183_109, r183_112, r183_113, r183_114, r183_116, r183_119, r183_121, r183_124, r183_126, r183_127, r183_130, r183_133, r183_134, r183_137, r183_138, ↓if_pos, ↓if_neg, e, ew, m_longOfBoard hR hg, isub_eq, iadd_eq, hA, Option.bind_some, pushR_s]
      · rw [if_pos ⟨Or.inr h3, fun q => (hk q).elim⟩]
        simp (disch := omega) only [r183_0, r183_1, r183_4, r183_6, r183_7, r183_8, r183_9, r183_10, r183_11, r183_12, r183_13, r183_14, r183_17, r183_20, r183_21, r183_22, r183_25, r183_28, r183_29, r183_30, r183_33, r183_34, r183_37, r183_38, r183_39, r183_42, r183_43, r183_44, r183_45, r183_48, r183_49, r183_50, r183_51, r183_52, r183_54, r183_55, r183_58, r183_59, r183_60, r183_61, r183_62, r183_65, r183_66, r183_68, r183_69, r183_72, r183_73, r183_74, r183_76, r183_79, r183_80, r183_83, r183_84, r183_85, r183_87, r183_90, r183_91, r183_94, r183_95, r183_97, r183_99, r183_102, r183_103, r183_104, r183_107, r183_108, r183_109, r183_112, r183_113, r183_114, r183_116, r183_119, r183_121, r183_124, r183_126, r183_127, r183_130, r183_133, r183_134, r183_137, r183_138, ↓if_pos, ↓if_neg, e, ew, m_longOfBoard hR hg, isub_eq, iadd_eq, Option.bind_some, pushR_s]
    · rw [if_neg (fun q => q.1.elim h2 h3)]
      simp (disch := omega) only [r183_0, r183_1, r183_4, r183_6, r183_7, r183_8, r183_9, r183_10, r183_11, r183_12, r183_13, r183_14, r183_17, r183_20, r183_21, r183_22, r183_25, r183_28, r183_29, r183_30, r183_33, r183_34, r183_37, r183_38, r183_39, r183_42, r183_43, r183_44, r183_45, r183_48, r183_49, r183_50, r183_51, r183_52, r183_54, r183_55, r183_58, r183_59, r183_60, r183_61, r183_62, r183_65, r183_66, r183_68, r183_69, r183_72, r183_73, r183_74, r183_76, r183_79, r183_80, r183_83, r183_84, r183_85, r183_87, r183_90, r183_91, r183_94, r183_95, r183_97, r183_99, r183_102, r183_103, r183_104, r183_107, r183_108, r183_109, r183_112, r183_113, r183_114, r183_116, r183_119, r183_121, r183_124, r183_126, r183_127, r183_130, r183_133, r183_134, r183_137, r183_138, ↓if_pos, ↓if_neg, e, ew, m_longOfBoard hR hg, isub_eq, iadd_eq, Option.bind_some, pushR_s]
theorem m_mayTake (hR : RG I g) (hM : MS I g c) (hg : WG g) (hV : VC g c) (h0 : 0 ≤ b) (h1 : b < g.nB) (hw : 0 ≤ w ∧ w < g.nW) : call (d + 5) 183 [vR 70, vI w, vI b] I = some (some (vI (if takeOK g c w b then 1 else 0)), I) := by
  rw [en183]
  have ek := (hR.2.2.2 b h0 h1).1; have hn := hg.nB2; have hnW := hg.nW3
  have hO := m_isOnBoard (d := d) hR hM hg h0 h1
  by_cases hl : bAt c b < 8
  · by_cases ho : onIt g c b
    · rw [if_neg (fun q => q.2.2.2.1 ho)]; rw [if_pos ho] at hO
      simp (disch := omega) only [r183_0, r183_1, r183_4, r183_6, r183_7, r183_8, r183_9, r183_10, r183_11, r183_12, r183_13, r183_14, r183_17, r183_20, r183_21, r183_22, r183_25, r183_28, r183_29, r183_30, r183_33, r183_34, r183_37, r183_38, r183_39, r183_42, r183_43, r183_44, r183_45, r183_48, r183_49, r183_50, r183_51, r183_52, r183_54, r183_55, r183_58, r183_59, r183_60, r183_61, r183_62, r183_65, r183_66, r183_68, r183_69, r183_72, r183_73, r183_74, r183_76, r183_79, r183_80, r183_83, r183_84, r183_85, r183_87, r183_90, r183_91, r183_94, r183_95, r183_97, r183_99, r183_102, r183_103, r183_104, r183_107, r183_108, r183_109, r183_112, r183_113, r183_114, r183_116, r183_119, r183_121, r183_124, r183_126, r183_127, r183_130, r183_133, r183_134, r183_137, r183_138, ↓if_pos, ↓if_neg, imul_eq, iadd_eq, ek, m_isLaid hM hg, hO, Option.bind_some, pushR_s]
    · rw [if_neg ho] at hO
      by_cases hb : cby g c w = -1
      · by_cases hk : g.kd b = 5
        · rw [if_neg (fun q => q.1.2 hk)]
          simp (disch := omega) only [r183_0, r183_1, r183_4, r183_6, r183_7, r183_8, r183_9, r183_10, r183_11, r183_12, r183_13, r183_14, r183_17, r183_20, r183_21, r183_22, r183_25, r183_28, r183_29, r183_30, r183_33, r183_34, r183_37, r183_38, r183_39, r183_42, r183_43, r183_44, r183_45, r183_48, r183_49, r183_50, r183_51, r183_52, r183_54, r183_55, r183_58, r183_59, r183_60, r183_61, r183_62, r183_65, r183_66, r183_68, r183_69, r183_72, r183_73, r183_74, r183_76, r183_79, r183_80, r183_83, r183_84, r183_85, r183_87, r183_90, r183_91, r183_94, r183_95, r183_97, r183_99, r183_102, r183_103, r183_104, r183_107, r183_108, r183_109, r183_112, r183_113, r183_114, r183_116, r183_119, r183_121, r183_124, r183_126, r183_127, r183_130, r183_133, r183_134, r183_137, r183_138, ↓if_pos, ↓if_neg, imul_eq, iadd_eq, ek, m_isLaid hM hg, hO, m_carries hR hM hg hV, Option.bind_some, pushR_s]
        · have hT := take_tailm (d := d) hR hM hg h0 h1 hw hl
          have hP : takeOK g c w b ↔ (wAt c w = bAt c b - 1 ∨ wAt c w = bAt c b + g.sp b) ∧ (g.kd b = 4 → anyAt g c (if wAt c w = bAt c b - 1 then bAt c b + g.sp b else bAt c b - 1)) := ⟨fun q => ⟨q.2.1, q.2.2.1⟩, fun q => ⟨⟨hl, hk⟩, q.1, q.2, ho, hb⟩⟩
          simp only [hP]
          rw [← hT]; clear hT hP
          simp (disch := omega) only [r183_0, r183_1, r183_4, r183_6, r183_7, r183_8, r183_9, r183_10, r183_11, r183_12, r183_13, r183_14, r183_17, r183_20, r183_21, r183_22, r183_25, r183_28, r183_29, r183_30, r183_33, r183_34, r183_37, r183_38, r183_39, r183_42, r183_43, r183_45, r183_48, r183_49, r183_50, r183_51, r183_52, r183_54, r183_55, r183_58, r183_59, r183_60, r183_61, r183_62, r183_65, r183_66, r183_68, r183_69, r183_72, r183_73, r183_74, r183_76, r183_79, r183_80, r183_83, r183_84, r183_85, r183_87, r183_90, r183_91, r183_94, r183_95, r183_97, r183_99, r183_102, r183_103, r183_104, r183_107, r183_108, r183_109, r183_112, r183_113, r183_114, r183_116, r183_119, r183_121, r183_124, r183_126, r183_127, r183_130, r183_133, r183_134, r183_137, r183_138, ↓if_pos, ↓if_neg, imul_eq, iadd_eq, ek, m_isLaid hM hg, hO, m_carries hR hM hg hV, Option.bind_some, pushR_s]
      · rw [if_neg (fun q => hb q.2.2.2.2)]
        simp (disch := omega) only [r183_0, r183_1, r183_4, r183_6, r183_7, r183_8, r183_9, r183_10, r183_11, r183_12, r183_13, r183_14, r183_17, r183_20, r183_21, r183_22, r183_25, r183_28, r183_29, r183_30, r183_33, r183_34, r183_37, r183_38, r183_39, r183_42, r183_43, r183_44, r183_45, r183_48, r183_49, r183_50, r183_51, r183_52, r183_54, r183_55, r183_58, r183_59, r183_60, r183_61, r183_62, r183_65, r183_66, r183_68, r183_69, r183_72, r183_73, r183_74, r183_76, r183_79, r183_80, r183_83, r183_84, r183_85, r183_87, r183_90, r183_91, r183_94, r183_95, r183_97, r183_99, r183_102, r183_103, r183_104, r183_107, r183_108, r183_109, r183_112, r183_113, r183_114, r183_116, r183_119, r183_121, r183_124, r183_126, r183_127, r183_130, r183_133, r183_134, r183_137, r183_138, ↓if_pos, ↓if_neg, imul_eq, iadd_eq, ek, m_isLaid hM hg, hO, m_carries hR hM hg hV, Option.bind_some, pushR_s]
  · rw [if_neg (fun q => hl q.1.1)]
    simp (disch := omega) only [r183_0, r183_1, r183_4, r183_6, r183_7, r183_8, r183_9, r183_10, r183_11, r183_12, r183_13, r183_14, r183_17, r183_20, r183_21, r183_22, r183_25, r183_28, r183_29, r183_30, r183_33, r183_34, r183_37, r183_38, r183_39, r183_42, r183_43, r183_44, r183_45, r183_48, r183_49, r183_50, r183_51, r183_52, r183_54, r183_55, r183_58, r183_59, r183_60, r183_61, r183_62, r183_65, r183_66, r183_68, r183_69, r183_72, r183_73, r183_74, r183_76, r183_79, r183_80, r183_83, r183_84, r183_85, r183_87, r183_90, r183_91, r183_94, r183_95, r183_97, r183_99, r183_102, r183_103, r183_104, r183_107, r183_108, r183_109, r183_112, r183_113, r183_114, r183_116, r183_119, r183_121, r183_124, r183_126, r183_127, r183_130, r183_133, r183_134, r183_137, r183_138, ↓if_pos, ↓if_neg, imul_eq, iadd_eq, ek, m_isLaid hM hg, Option.bind_some, pushR_s]
theorem m_mayHand (hR : RG I g) (hM : MS I g c) (hg : WG g) (hV : VC g c) (h0 : 0 ≤ b) (h1 : b < g.nB) (hw : 0 ≤ w ∧ w < g.nW) (hy : 0 ≤ y ∧ y < g.nW) : call (d + 3) 186 [vR 70, vI w, vI b, vI y] I = some (some (vI (if bAt c b = 8 + w ∧ handOK g c w y then 1 else 0)), I) := by
  rw [en186]
  have hnW := hg.nW3
  have hk := cby_b (w := w) (b := b) hV (by omega) h0 h1 hg
  have ew := hM.1 w hw.1 hw.2; have ey := hM.1 y hy.1 hy.2; have hqw := wAt_b c w; have hqy := wAt_b c y
  by_cases h : bAt c b = 8 + w
  · have hcb := hk.mpr h
    by_cases hb : cby g c y = -1
    · by_cases h2 : -1 ≤ wAt c w - wAt c y ∧ wAt c w - wAt c y ≤ 1
      · rw [if_pos ⟨h, h2, hb⟩]
        simp (disch := omega) only [r186_0, r186_1, r186_4, r186_5, r186_6, r186_7, r186_10, r186_11, r186_12, r186_13, r186_15, r186_16, r186_17, r186_20, r186_21, r186_24, r186_25, r186_26, r186_29, r186_30, r186_33, r186_35, r186_36, r186_39, r186_40, r186_43, r186_46, r186_47, r186_50, r186_51, ↓if_pos, ↓if_neg, ew, ey, isub_eq, m_in, if_pos h2, m_carries hR hM hg hV, Option.bind_some, pushR_s]
      · rw [if_neg (fun q => h2 q.2.1)]
        simp (disch := omega) only [r186_0, r186_1, r186_4, r186_5, r186_6, r186_7, r186_10, r186_11, r186_12, r186_13, r186_15, r186_16, r186_17, r186_20, r186_21, r186_24, r186_25, r186_26, r186_29, r186_30, r186_33, r186_35, r186_36, r186_39, r186_40, r186_43, r186_46, r186_47, r186_50, r186_51, ↓if_pos, ↓if_neg, ew, ey, isub_eq, m_in, if_neg h2, m_carries hR hM hg hV, Option.bind_some, pushR_s]
    · rw [if_neg (fun q => hb q.2.2)]
      simp (disch := omega) only [r186_0, r186_1, r186_4, r186_5, r186_6, r186_7, r186_10, r186_11, r186_12, r186_13, r186_15, r186_16, r186_17, r186_20, r186_21, r186_24, r186_25, r186_26, r186_29, r186_30, r186_33, r186_35, r186_36, r186_39, r186_40, r186_43, r186_46, r186_47, r186_50, r186_51, ↓if_pos, ↓if_neg, ew, ey, isub_eq, m_carries hR hM hg hV, Option.bind_some, pushR_s]
  · have hcb : ¬ cby g c w = b := fun q => h (hk.mp q)
    rw [if_neg (fun q => h q.1)]
    simp (disch := omega) only [r186_0, r186_1, r186_4, r186_5, r186_6, r186_7, r186_10, r186_11, r186_12, r186_13, r186_15, r186_16, r186_17, r186_20, r186_21, r186_24, r186_25, r186_26, r186_29, r186_30, r186_33, r186_35, r186_36, r186_39, r186_40, r186_43, r186_46, r186_47, r186_50, r186_51, ↓if_pos, ↓if_neg, ew, ey, isub_eq, m_carries hR hM hg hV, Option.bind_some, pushR_s]
theorem m_isThere (hR : RG I g) (hg : WG g) (hF : AF I k w x y) (hk : 0 ≤ k ∧ k ≤ 4) (hw : 0 ≤ w) (hx : 0 ≤ x) (hy : 0 ≤ y) : call (d + 3) 180 [vR 70] I = some (some (vI (if such g k w x y then 1 else 0)), I) := by
  rw [en180]
  obtain ⟨f9, f10, f11, f12⟩ := hF
  by_cases h1 : w < g.nW
  · have hk5 : k = 0 ∨ k = 1 ∨ k = 2 ∨ k = 3 ∨ k = 4 := by omega
    rcases hk5 with rfl | rfl | rfl | rfl | rfl
    · by_cases h2 : x < 2 <;> by_cases h3 : y = 0 <;> simp (disch := omega) only [r180_0, r180_1, r180_2, r180_5, r180_8, r180_11, r180_12, r180_13, r180_14, r180_17, r180_20, r180_21, r180_24, r180_25, r180_28, r180_29, r180_32, r180_33, r180_36, r180_37, r180_40, r180_43, r180_44, r180_47, r180_48, r180_49, r180_50, r180_51, r180_54, r180_57, r180_60, r180_61, r180_64, r180_65, r180_68, r180_69, r180_72, r180_73, r180_76, r180_79, r180_80, r180_83, r180_84, r180_87, r180_88, r180_91, r180_94, r180_97, r180_98, r180_99, r180_102, r180_105, r180_108, r180_109, r180_112, r180_113, ↓if_pos, ↓if_neg, f9, f10, f11, f12, m_isWalker hR hg, Option.bind_some, pushR_s] <;> simp [such, h1, h2, h3]
    · by_cases h2 : x < g.nB <;> by_cases h3 : y < 2 <;> simp (disch := omega) only [r180_0, r180_1, r180_2, r180_5, r180_8, r180_11, r180_12, r180_13, r180_14, r180_17, r180_20, r180_21, r180_24, r180_25, r180_28, r180_29, r180_32, r180_33, r180_36, r180_37, r180_40, r180_43, r180_44, r180_47, r180_48, r180_49, r180_50, r180_51, r180_54, r180_57, r180_60, r180_61, r180_64, r180_65, r180_68, r180_69, r180_72, r180_73, r180_76, r180_79, r180_80, r180_83, r180_84, r180_87, r180_88, r180_91, r180_94, r180_97, r180_98, r180_99, r180_102, r180_105, r180_108, r180_109, r180_112, r180_113, ↓if_pos, ↓if_neg, f9, f10, f11, f12, m_isWalker hR hg, m_isBoard hR hg, Option.bind_some, pushR_s] <;> simp [such, h1, h2, h3]
    · by_cases h2 : x < g.nB <;> by_cases h3 : y = 0 <;> simp (disch := omega) only [r180_0, r180_1, r180_2, r180_5, r180_8, r180_11, r180_12, r180_13, r180_14, r180_17, r180_20, r180_21, r180_24, r180_25, r180_28, r180_29, r180_32, r180_33, r180_36, r180_37, r180_40, r180_43, r180_44, r180_47, r180_48, r180_49, r180_50, r180_51, r180_54, r180_57, r180_60, r180_61, r180_64, r180_65, r180_68, r180_69, r180_72, r180_73, r180_76, r180_79, r180_80, r180_83, r180_84, r180_87, r180_88, r180_91, r180_94, r180_97, r180_98, r180_99, r180_102, r180_105, r180_108, r180_109, r180_112, r180_113, ↓if_pos, ↓if_neg, f9, f10, f11, f12, m_isWalker hR hg, m_isBoard hR hg, Option.bind_some, pushR_s] <;> simp [such, h1, h2, h3]
    · by_cases h2 : x < g.nB <;> by_cases h3 : y < g.nW <;> simp (disch := omega) only [r180_0, r180_1, r180_2, r180_5, r180_8, r180_11, r180_12, r180_13, r180_14, r180_17, r180_20, r180_21, r180_24, r180_25, r180_28, r180_29, r180_32, r180_33, r180_36, r180_37, r180_40, r180_43, r180_44, r180_47, r180_48, r180_49, r180_50, r180_51, r180_54, r180_57, r180_60, r180_61, r180_64, r180_65, r180_68, r180_69, r180_72, r180_73, r180_76, r180_79, r180_80, r180_83, r180_84, r180_87, r180_88, r180_91, r180_94, r180_97, r180_98, r180_99, r180_102, r180_105, r180_108, r180_109, r180_112, r180_113, ↓if_pos, ↓if_neg, f9, f10, f11, f12, m_isWalker hR hg, m_isBoard hR hg, Option.bind_some, pushR_s] <;> simp [such, h1, h2, h3]
    · by_cases h2 : x < 2 <;> by_cases h3 : y = 0 <;> simp (disch := omega) only [r180_0, r180_1, r180_2, r180_5, r180_8, r180_11, r180_12, r180_13, r180_14, r180_17, r180_20, r180_21, r180_24, r180_25, r180_28, r180_29, r180_32, r180_33, r180_36, r180_37, r180_40, r180_43, r180_44, r180_47, r180_48, r180_49, r180_50, r180_51, r180_54, r180_57, r180_60, r180_61, r180_64, r180_65, r180_68, r180_69, r180_72, r180_73, r180_76, r180_79, r180_80, r180_83, r180_84, r180_87, r180_88, r180_91, r180_94, r180_97, r180_98, r180_99, r180_102, r180_105, r180_108, r180_109, r180_112, r180_113, ↓if_pos, ↓if_neg, f9, f10, f11, f12, m_isWalker hR hg, Option.bind_some, pushR_s] <;> simp [such, h1, h2, h3]
  · rw [if_neg (fun q => h1 q.1)]
    simp (disch := omega) only [r180_0, r180_1, r180_2, r180_5, r180_8, r180_11, r180_12, r180_13, r180_14, r180_17, r180_20, r180_21, r180_24, r180_25, r180_28, r180_29, r180_32, r180_33, r180_36, r180_37, r180_40, r180_43, r180_44, r180_47, r180_48, r180_49, r180_50, r180_51, r180_54, r180_57, r180_60, r180_61, r180_64, r180_65, r180_68, r180_69, r180_72, r180_73, r180_76, r180_79, r180_80, r180_83, r180_84, r180_87, r180_88, r180_91, r180_94, r180_97, r180_98, r180_99, r180_102, r180_105, r180_108, r180_109, r180_112, r180_113, ↓if_pos, ↓if_neg, f9, f10, f11, f12, m_isWalker hR hg, Option.bind_some, pushR_s]
theorem m_split (ha : 0 ≤ a ∧ a < 2147483648) : call (d + 1) 189 [vR 70, vI a] I = some (none, memS I a) := by
  rw [en189]
  simp (disch := omega) only [r189_0, r189_1, r189_2, r189_5, r189_6, r189_9, r189_10, r189_11, r189_13, r189_14, r189_15, r189_16, r189_19, r189_20, r189_21, r189_23, r189_24, r189_26, r189_27, r189_30, r189_31, r189_32, r189_34, r189_35, r189_38, ↓if_pos, ↓if_neg, idiv_eq, irem_eq]
  rfl
theorem m_remember : call (d + 1) 190 [vR 70] I = some (none, memR I) := by
  rw [en190]
  simp (disch := omega) only [r190_0, r190_1, r190_2, r190_3, r190_4, r190_7, r190_8, r190_11, r190_12, r190_13, r190_16, r190_17, r190_18, r190_19, r190_22, r190_25, r190_26, r190_27, r190_28, r190_29, r190_32, r190_33, r190_36, r190_37, r190_38, r190_41, r190_42, r190_43, r190_44, r190_47, r190_50, ↓if_pos, ↓if_neg, iadd_eq, Int.reduceAdd, mset_at]
  rfl
theorem m_goBack : call (d + 1) 191 [vR 70] I = some (none, memB I) := by
  rw [en191]
  simp (disch := omega) only [r191_0, r191_1, r191_2, r191_3, r191_4, r191_7, r191_8, r191_11, r191_12, r191_13, r191_16, r191_17, r191_18, r191_19, r191_22, r191_25, r191_26, r191_27, r191_28, r191_29, r191_32, r191_33, r191_36, r191_37, r191_38, r191_41, r191_42, r191_43, r191_44, r191_47, r191_50, ↓if_pos, ↓if_neg, iadd_eq, Int.reduceAdd, mset_at]
  rfl
theorem AF_memS : AF (memS I a) (a / 256) (a / 64 % 4) (a / 8 % 8) (a % 8) := by
  refine ⟨?_, ?_, ?_, ?_⟩ <;> simp [memS, mset_at]
end
