/-! In mist: the model looks ahead and behind. -/
def FrL (I J : MM) : Prop := ∀ a i, a ≠ 77 → a ≠ 78 → a ≠ 79 → a ≠ 80 → a ≠ 88 → ¬ (a = 70 ∧ 9 ≤ i ∧ i ≤ 12) → J a i = I a i
section
variable {d : Nat} {I J K : MM} {g : G} {c w k x y t v b p n m : Int}
theorem Fr8.L (f : Fr8 I J) : FrL I J := fun a i q1 q2 q3 q4 _ q6 => f a i q1 q2 q3 q4 q6
theorem FrL.trans (f : FrL I J) (f' : FrL J K) : FrL I K := fun a i q1 q2 q3 q4 q5 q6 => (f' a i q1 q2 q3 q4 q5 q6).trans (f a i q1 q2 q3 q4 q5 q6)
theorem FrL.RG (f : FrL I J) (hR : RG I g) : RG J g := hR.cong (fun i => f 71 i (by omega) (by omega) (by omega) (by omega) (by omega) (by omega))
theorem set88_L (i v : Int) : FrL I (mset I 88 i v) := fun a j q1 q2 q3 q4 q5 q6 => by rw [mset_at, if_neg (by omega)]
theorem set88_MS (i v : Int) (h : MS I g c) : MS (mset I 88 i v) g c := h.cong (fun j => by rw [mset_at, if_neg (by omega)]) (fun j => by rw [mset_at, if_neg (by omega)])
theorem m_bbStep (hR : RG I g) (hM : MS I g c) (hg : WG g) (hw : 0 ≤ w ∧ w < g.nW) (hb : 0 ≤ b ∧ b < g.nB) (v5 : AV) : ∃ u5, runs (call (d + 2)) 248 10 [vR 70, vI w, vI (g.gl w), vI m, vI b, v5] [] I = runs (call (d + 2)) 248 10 [vR 70, vI w, vI (g.gl w), vI (if bhd g c w b = true then b else m), vI (b - 1), u5] [] I := by
  have hn := hg.nW3
  have hb2 := hg.nB2
  have hgl := (hg.2.2.2.2.1 w hw.1 hw.2).2
  have hsp := hg.sp14 hb.1 hb.2
  have el := hM.2 b hb.1 hb.2
  have ew := hM.1 w hw.1 hw.2
  have hbb := bAt_b c b
  have hlb : 0 ≤ lie (bAt c b) ∧ lie (bAt c b) < 16 := by unfold lie; split <;> omega
  have c2 := m_longOfBoard (d := d) hR hg hb.1 hb.2
  have c3 := m_isLaid (d := d + 1) hM hg hb
  have en : b + -1 = b - 1 := by omega
  refine ⟨vI (if g.gl w = 1 then lie (bAt c b) + g.sp b else lie (bAt c b) - 1), ?_⟩
  rw [r248_10]
  by_cases hbh : bhd g c w b = true
  · obtain ⟨h1, h2⟩ := bhd_d.mp hbh
    rw [if_pos h1] at c3
    rw [if_pos hbh]
    rw [lie_n h1] at el ⊢
    clear hbh
    rcases hgl with z | z
    · rw [z, if_neg (by omega)] at h2
      rw [z, if_neg (by omega)]
      simp (disch := omega) only [r248_0, r248_1, r248_2, r248_3, r248_6, r248_7, r248_8, r248_12, r248_15, r248_16, r248_17, r248_20, r248_21, r248_24, r248_26, r248_27, r248_28, r248_30, r248_33, r248_34, r248_37, r248_38, r248_41, r248_43, r248_44, r248_45, r248_46, r248_48, r248_49, r248_51, r248_54, r248_57, r248_59, r248_60, r248_63, r248_64, r248_65, r248_68, r248_70, r248_73, r248_74, r248_75, r248_78, r248_81, r248_82, ↓if_pos, ↓if_neg, c2, c3, el, ew, isub_eq, h2, iadd_eq, en, Option.bind_some, pushR_s]
    · rw [z, if_pos rfl] at h2
      rw [z, if_pos rfl]
      simp (disch := omega) only [r248_0, r248_1, r248_2, r248_3, r248_6, r248_7, r248_8, r248_12, r248_15, r248_16, r248_17, r248_20, r248_21, r248_24, r248_26, r248_27, r248_28, r248_30, r248_33, r248_34, r248_37, r248_38, r248_41, r248_43, r248_44, r248_45, r248_46, r248_48, r248_49, r248_51, r248_54, r248_57, r248_59, r248_60, r248_63, r248_64, r248_65, r248_68, r248_70, r248_73, r248_74, r248_75, r248_78, r248_81, r248_82, ↓if_pos, ↓if_neg, c2, c3, el, ew, iadd_eq, h2, en, Option.bind_some, pushR_s]
  · have h' : ¬ (bAt c b < 8 ∧ (if g.gl w = 1 then bAt c b + g.sp b else bAt c b - 1) = wAt c w) := fun z => hbh (bhd_d.mpr z)
    rw [if_neg hbh]
    clear hbh
    by_cases h1 : bAt c b < 8
    · rw [if_pos h1] at c3
      rw [lie_n h1] at el ⊢
      rcases hgl with z | z
      · rw [z, if_neg (by omega)] at h'
        rw [z, if_neg (by omega)]
        simp (disch := omega) only [r248_0, r248_1, r248_2, r248_3, r248_6, r248_7, r248_8, r248_12, r248_15, r248_16, r248_17, r248_20, r248_21, r248_24, r248_26, r248_27, r248_28, r248_30, r248_33, r248_34, r248_37, r248_38, r248_41, r248_43, r248_44, r248_45, r248_46, r248_48, r248_49, r248_51, r248_54, r248_57, r248_59, r248_60, r248_63, r248_64, r248_65, r248_68, r248_70, r248_73, r248_74, r248_75, r248_78, r248_81, r248_82, ↓if_pos, ↓if_neg, c2, c3, el, ew, isub_eq, iadd_eq, en, Option.bind_some, pushR_s]
      · rw [z, if_pos rfl] at h'
        rw [z, if_pos rfl]
        simp (disch := omega) only [r248_0, r248_1, r248_2, r248_3, r248_6, r248_7, r248_8, r248_12, r248_15, r248_16, r248_17, r248_20, r248_21, r248_24, r248_26, r248_27, r248_28, r248_30, r248_33, r248_34, r248_37, r248_38, r248_41, r248_43, r248_44, r248_45, r248_46, r248_48, r248_49, r248_51, r248_54, r248_57, r248_59, r248_60, r248_63, r248_64, r248_65, r248_68, r248_70, r248_73, r248_74, r248_75, r248_78, r248_81, r248_82, ↓if_pos, ↓if_neg, c2, c3, el, ew, isub_eq, iadd_eq, en, Option.bind_some, pushR_s]
    · rw [if_neg h1] at c3
      rcases hgl with z | z
      · rw [z, if_neg (by omega)]
        simp (disch := omega) only [r248_0, r248_1, r248_2, r248_3, r248_6, r248_7, r248_8, r248_12, r248_15, r248_16, r248_17, r248_20, r248_21, r248_24, r248_26, r248_27, r248_28, r248_30, r248_33, r248_34, r248_37, r248_38, r248_41, r248_43, r248_44, r248_45, r248_46, r248_48, r248_49, r248_51, r248_54, r248_57, r248_59, r248_60, r248_63, r248_64, r248_65, r248_68, r248_70, r248_73, r248_74, r248_75, r248_78, r248_81, r248_82, ↓if_pos, ↓if_neg, c2, c3, el, ew, isub_eq, iadd_eq, en, Option.bind_some, pushR_s]
      · rw [z, if_pos rfl]
        simp (disch := omega) only [r248_0, r248_1, r248_2, r248_3, r248_6, r248_7, r248_8, r248_12, r248_15, r248_16, r248_17, r248_20, r248_21, r248_24, r248_26, r248_27, r248_28, r248_30, r248_33, r248_34, r248_37, r248_38, r248_41, r248_43, r248_44, r248_45, r248_46, r248_48, r248_49, r248_51, r248_54, r248_57, r248_59, r248_60, r248_63, r248_64, r248_65, r248_68, r248_70, r248_73, r248_74, r248_75, r248_78, r248_81, r248_82, ↓if_pos, ↓if_neg, c2, c3, el, ew, isub_eq, iadd_eq, en, Option.bind_some, pushR_s]
theorem m_boardBehind (hR : RG I g) (hM : MS I g c) (hg : WG g) (hw : 0 ≤ w ∧ w < g.nW) : call (d + 3) 248 [vR 70, vI w, vI (g.gl w)] I = some (some (vI (bbh g c w)), I) := by
  have hb2 := hg.nB2
  have c1 := m_boards (d := d + 1) hR
  have hend : ∀ (m : Int) (v5 : AV), runs (call (d + 2)) 248 10 [vR 70, vI w, vI (g.gl w), vI m, vI (-1), v5] [] I = some (some (vI m), I) := fun m v5 => by
    simp (disch := omega) only [r248_0, r248_1, r248_2, r248_3, r248_6, r248_7, r248_8, r248_10, r248_12, r248_15, r248_16, r248_17, r248_20, r248_21, r248_24, r248_26, r248_27, r248_28, r248_30, r248_33, r248_34, r248_37, r248_38, r248_41, r248_43, r248_44, r248_45, r248_46, r248_48, r248_49, r248_51, r248_54, r248_57, r248_59, r248_60, r248_63, r248_64, r248_65, r248_68, r248_70, r248_73, r248_74, r248_75, r248_78, r248_81, r248_82, ↓if_pos, ↓if_neg]
  have h0 : call (d + 3) 248 [vR 70, vI w, vI (g.gl w)] I = runs (call (d + 2)) 248 10 [vR 70, vI w, vI (g.gl w), vI (-1), vI (g.nB - 1), vR 0] [] I := by
    rw [en248]
    simp (disch := omega) only [r248_0, r248_1, r248_2, r248_3, r248_6, r248_7, r248_8, r248_12, r248_15, r248_16, r248_17, r248_20, r248_21, r248_24, r248_26, r248_27, r248_28, r248_30, r248_33, r248_34, r248_37, r248_38, r248_41, r248_43, r248_44, r248_45, r248_46, r248_48, r248_49, r248_51, r248_54, r248_57, r248_59, r248_60, r248_63, r248_64, r248_65, r248_68, r248_70, r248_73, r248_74, r248_75, r248_78, r248_81, r248_82, c1, isub_eq, Option.bind_some, pushR_s]
  rw [h0]
  unfold bbh
  by_cases n0 : g.nB = 0
  · rw [n0, if_neg (by omega), if_neg (by omega)]
    exact hend _ _
  · by_cases n1 : g.nB = 1
    · obtain ⟨u5, c2⟩ := m_bbStep (d := d) hR hM hg hw (b := 0) (m := -1) (by omega) (vR 0)
      rw [show g.nB - 1 = 0 by omega, c2, show (0 : Int) - 1 = -1 by omega, hend]
      by_cases h : bhd g c w 0 = true
      · rw [if_pos h, if_pos ⟨by omega, h⟩]
      · rw [if_neg h, if_neg (fun z => h z.2), if_neg (by omega)]
    · obtain ⟨u5, c2⟩ := m_bbStep (d := d) hR hM hg hw (b := 1) (m := -1) (by omega) (vR 0)
      obtain ⟨w5, c3⟩ := m_bbStep (d := d) hR hM hg hw (b := 0) (m := if bhd g c w 1 = true then 1 else -1) (by omega) u5
      rw [show g.nB - 1 = 1 by omega, c2, show (1 : Int) - 1 = 0 by omega, c3, show (0 : Int) - 1 = -1 by omega, hend]
      by_cases h : bhd g c w 0 = true
      · rw [if_pos h, if_pos ⟨by omega, h⟩]
      · rw [if_neg h, if_neg (show ¬ (0 < g.nB ∧ bhd g c w 0 = true) from fun z => h z.2)]
        by_cases h2 : bhd g c w 1 = true
        · rw [if_pos h2, if_pos ⟨by omega, h2⟩]
        · rw [if_neg h2, if_neg (show ¬ (1 < g.nB ∧ bhd g c w 1 = true) from fun z => h2 z.2)]
theorem ctR_std : ctR g c p 3 0 = stdAt g c p := by
  unfold ctR ctR ctR ctR stdAt
  rw [show (0 : Int) + 1 = 1 by omega, show (1 : Int) + 1 = 2 by omega]
  omega
theorem ctR_b : ∀ (f : Nat) (o : Int), 0 ≤ ctR g c p f o ∧ ctR g c p f o ≤ f
  | 0, _ => by unfold ctR; omega
  | f + 1, o => by
    have := ctR_b f (o + 1)
    rw [ctR]
    split <;> omega
theorem m_many (hR : RG I g) (hM : MS I g c) (hg : WG g) (hp : p < 100) (u1 u3 : Int) : ∀ (f : Nat) (o m : Int), 0 ≤ o → o + f = 3 → 0 ≤ m ∧ m ≤ o → ∃ o', runs (call (d + 1)) 251 40 [vR 70, vI w, vI u1, vI u3, vI p, vI 1, vI m, vI o] [] I = runs (call (d + 1)) 251 82 [vR 70, vI w, vI u1, vI u3, vI p, vI 1, vI (m + ctR g c p f o), vI o'] [] I := by
  have hn := hg.nW3
  have c1 := m_walkers (d := d) hR
  intro f
  induction f with
  | zero =>
    intro o m o0 ho hm
    refine ⟨o, ?_⟩
    rw [ctR, Int.add_zero]
    simp (disch := omega) only [r251_0, r251_1, r251_4, r251_5, r251_6, r251_7, r251_10, r251_11, r251_13, r251_14, r251_17, r251_18, r251_19, r251_20, r251_21, r251_24, r251_27, r251_28, r251_31, r251_32, r251_34, r251_35, r251_37, r251_38, r251_40, r251_42, r251_43, r251_46, r251_49, r251_51, r251_53, r251_56, r251_57, r251_60, r251_62, r251_63, r251_65, r251_68, r251_69, r251_72, r251_73, r251_74, r251_76, r251_79, r251_83, r251_86, r251_87, r251_89, r251_92, r251_93, r251_95, r251_98, r251_101, r251_102, r251_105, r251_106, r251_107, r251_108, r251_111, r251_112, r251_114, r251_115, r251_116, r251_117, r251_120, r251_121, r251_122, r251_123, r251_126, r251_127, r251_130, r251_131, r251_134, r251_135, r251_136, r251_137, r251_140, r251_141, r251_142, r251_143, r251_144, r251_147, r251_150, r251_151, r251_154, r251_155, r251_156, r251_157, r251_160, r251_161, r251_162, r251_163, r251_164, r251_165, r251_168, r251_169, r251_170, r251_171, r251_172, ↓if_pos, ↓if_neg, c1, Option.bind_some, pushR_s]
  | succ f ih =>
    intro o m o0 ho hm
    rw [ctR]
    by_cases h : o < g.nW
    · have ew := hM.1 o o0 h
      by_cases h2 : wAt c o = p
      · obtain ⟨o', c2⟩ := ih (o + 1) (m + 1) (by omega) (by omega) (by omega)
        refine ⟨o', ?_⟩
        rw [if_pos ⟨h, h2⟩, ← Int.add_assoc, ← c2, r251_40]
        simp (disch := omega) only [r251_0, r251_1, r251_4, r251_5, r251_6, r251_7, r251_10, r251_11, r251_13, r251_14, r251_17, r251_18, r251_19, r251_20, r251_21, r251_24, r251_27, r251_28, r251_31, r251_32, r251_34, r251_35, r251_37, r251_38, r251_42, r251_43, r251_46, r251_49, r251_51, r251_53, r251_56, r251_57, r251_60, r251_62, r251_63, r251_65, r251_68, r251_69, r251_72, r251_73, r251_74, r251_76, r251_79, r251_83, r251_86, r251_87, r251_89, r251_92, r251_93, r251_95, r251_98, r251_101, r251_102, r251_105, r251_106, r251_107, r251_108, r251_111, r251_112, r251_114, r251_115, r251_116, r251_117, r251_120, r251_121, r251_122, r251_123, r251_126, r251_127, r251_130, r251_131, r251_134, r251_135, r251_136, r251_137, r251_140, r251_141, r251_142, r251_143, r251_144, r251_147, r251_150, r251_151, r251_154, r251_155, r251_156, r251_157, r251_160, r251_161, r251_162, r251_163, r251_164, r251_165, r251_168, r251_169, r251_170, r251_171, r251_172, ↓if_pos, ↓if_neg, c1, ew, iadd_eq, Option.bind_some, pushR_s]
      · obtain ⟨o', c2⟩ := ih (o + 1) m (by omega) (by omega) (by omega)
        refine ⟨o', ?_⟩
        rw [if_neg (fun z => h2 z.2), Int.zero_add, ← c2, r251_40]
        simp (disch := omega) only [r251_0, r251_1, r251_4, r251_5, r251_6, r251_7, r251_10, r251_11, r251_13, r251_14, r251_17, r251_18, r251_19, r251_20, r251_21, r251_24, r251_27, r251_28, r251_31, r251_32, r251_34, r251_35, r251_37, r251_38, r251_42, r251_43, r251_46, r251_49, r251_51, r251_53, r251_56, r251_57, r251_60, r251_62, r251_63, r251_65, r251_68, r251_69, r251_72, r251_73, r251_74, r251_76, r251_79, r251_83, r251_86, r251_87, r251_89, r251_92, r251_93, r251_95, r251_98, r251_101, r251_102, r251_105, r251_106, r251_107, r251_108, r251_111, r251_112, r251_114, r251_115, r251_116, r251_117, r251_120, r251_121, r251_122, r251_123, r251_126, r251_127, r251_130, r251_131, r251_134, r251_135, r251_136, r251_137, r251_140, r251_141, r251_142, r251_143, r251_144, r251_147, r251_150, r251_151, r251_154, r251_155, r251_156, r251_157, r251_160, r251_161, r251_162, r251_163, r251_164, r251_165, r251_168, r251_169, r251_170, r251_171, r251_172, ↓if_pos, ↓if_neg, c1, ew, iadd_eq, Int.add_zero, Option.bind_some, pushR_s]
    · refine ⟨o, ?_⟩
      have hz : ∀ (f : Nat) (q : Int), g.nW ≤ q → ctR g c p f q = 0 := by
        intro f
        induction f with
        | zero => intro q hq; rfl
        | succ f ihf => intro q hq; rw [ctR, if_neg (by omega), ihf (q + 1) (by omega)]; rfl
      rw [if_neg (fun z => h z.1), hz f (o + 1) (by omega), Int.add_zero, Int.add_zero]
      simp (disch := omega) only [r251_0, r251_1, r251_4, r251_5, r251_6, r251_7, r251_10, r251_11, r251_13, r251_14, r251_17, r251_18, r251_19, r251_20, r251_21, r251_24, r251_27, r251_28, r251_31, r251_32, r251_34, r251_35, r251_37, r251_38, r251_40, r251_42, r251_43, r251_46, r251_49, r251_51, r251_53, r251_56, r251_57, r251_60, r251_62, r251_63, r251_65, r251_68, r251_69, r251_72, r251_73, r251_74, r251_76, r251_79, r251_83, r251_86, r251_87, r251_89, r251_92, r251_93, r251_95, r251_98, r251_101, r251_102, r251_105, r251_106, r251_107, r251_108, r251_111, r251_112, r251_114, r251_115, r251_116, r251_117, r251_120, r251_121, r251_122, r251_123, r251_126, r251_127, r251_130, r251_131, r251_134, r251_135, r251_136, r251_137, r251_140, r251_141, r251_142, r251_143, r251_144, r251_147, r251_150, r251_151, r251_154, r251_155, r251_156, r251_157, r251_160, r251_161, r251_162, r251_163, r251_164, r251_165, r251_168, r251_169, r251_170, r251_171, r251_172, ↓if_pos, ↓if_neg, c1, Option.bind_some, pushR_s]
theorem m_layLetters (hR : RG I g) (hM : MS I g c) (hg : WG g) (hV : VC g c) (hw : 0 ≤ w ∧ w < g.nW) (hne : wAt c w ≠ goalP g w) : ∃ J, call (d + 9) 251 [vR 70, vI w, vI (g.gl w), vI t] I = some (none, J) ∧ LM J (LSm g c w t) ∧ MS J g c ∧ FrL I J := by
  have hn := hg.nW3
  have hgl := (hg.2.2.2.2.1 w hw.1 hw.2).2
  have hwb := wAt_b c w
  have ew := hM.1 w hw.1 hw.2
  have hst : stp (g.gl w) = -1 ∨ stp (g.gl w) = 1 := by unfold stp; split <;> omega
  have h1 : call (d + 9) 251 [vR 70, vI w, vI (g.gl w), vI t] I = runs (call (d + 8)) 251 40 [vR 70, vI w, vI (g.gl w), vI t, vI (ahd g c w), vI 1, vI 0, vI 0] [] I := by
    have c1 := m_aheadBy (d := d + 7) (I := I) (x := g.gl w) (by omega)
    have c2 := m_goalOf (d := d + 6) hR hg hw.1 hw.2
    have ea : iadd (wAt c w) (stp (g.gl w)) = ahd g c w := by unfold ahd; rw [iadd_eq (by omega)]
    rw [en251]
    simp (disch := omega) only [r251_0, r251_1, r251_4, r251_5, r251_6, r251_7, r251_10, r251_11, r251_13, r251_14, r251_17, r251_18, r251_19, r251_20, r251_21, r251_24, r251_27, r251_28, r251_31, r251_32, r251_34, r251_35, r251_37, r251_38, r251_42, r251_43, r251_46, r251_49, r251_51, r251_53, r251_56, r251_57, r251_60, r251_62, r251_63, r251_65, r251_68, r251_69, r251_72, r251_73, r251_74, r251_76, r251_79, r251_82, r251_83, r251_86, r251_87, r251_89, r251_92, r251_93, r251_95, r251_98, r251_101, r251_102, r251_105, r251_106, r251_107, r251_108, r251_111, r251_112, r251_114, r251_115, r251_116, r251_117, r251_120, r251_121, r251_122, r251_123, r251_126, r251_127, r251_130, r251_131, r251_134, r251_135, r251_136, r251_137, r251_140, r251_141, r251_142, r251_143, r251_144, r251_147, r251_150, r251_151, r251_154, r251_155, r251_156, r251_157, r251_160, r251_161, r251_162, r251_163, r251_164, r251_165, r251_168, r251_169, r251_170, r251_171, r251_172, ↓if_pos, ↓if_neg, ew, c1, c2, ea, Option.bind_some, pushR_s]
  have hab : ahd g c w < 100 := by unfold ahd; omega
  obtain ⟨o', h2⟩ := m_many (d := d + 7) (w := w) hR hM hg hab (g.gl w) t 3 0 0 (by omega) (by omega) (by omega)
  rw [ctR_std, Int.zero_add] at h2
  have h3 : runs (call (d + 8)) 251 82 [vR 70, vI w, vI (g.gl w), vI t, vI (ahd g c w), vI 1, vI (stdAt g c (ahd g c w)), vI o'] [] I = runs (call (d + 8)) 251 107 [vR 70, vI w, vI (g.gl w), vI t, vI (ahd g c w), vI 1, vI (stdAt g c (ahd g c w)), vI o'] [] (mset I 88 0 (frm g c (ahd g c w))) := by
    have c1 := m_isFirmi (d := d + 3) (p := ahd g c w) hR hM hg
    rcases frm_c g c (ahd g c w) with ⟨k, -⟩ | ⟨k, -⟩ <;> rw [k] at c1 ⊢ <;> simp (disch := omega) only [r251_0, r251_1, r251_4, r251_5, r251_6, r251_7, r251_10, r251_11, r251_13, r251_14, r251_17, r251_18, r251_19, r251_20, r251_21, r251_24, r251_27, r251_28, r251_31, r251_32, r251_34, r251_35, r251_37, r251_38, r251_40, r251_42, r251_43, r251_46, r251_49, r251_51, r251_53, r251_56, r251_57, r251_60, r251_62, r251_63, r251_65, r251_68, r251_69, r251_72, r251_73, r251_74, r251_76, r251_79, r251_82, r251_83, r251_86, r251_87, r251_89, r251_92, r251_93, r251_95, r251_98, r251_101, r251_102, r251_105, r251_106, r251_108, r251_111, r251_112, r251_114, r251_115, r251_116, r251_117, r251_120, r251_121, r251_122, r251_123, r251_126, r251_127, r251_130, r251_131, r251_134, r251_135, r251_136, r251_137, r251_140, r251_141, r251_142, r251_143, r251_144, r251_147, r251_150, r251_151, r251_154, r251_155, r251_156, r251_157, r251_160, r251_161, r251_162, r251_163, r251_164, r251_165, r251_168, r251_169, r251_170, r251_171, r251_172, ↓if_pos, ↓if_neg, c1, Option.bind_some, pushR_s]
  have h4 : runs (call (d + 8)) 251 107 [vR 70, vI w, vI (g.gl w), vI t, vI (ahd g c w), vI 1, vI (stdAt g c (ahd g c w)), vI o'] [] (mset I 88 0 (frm g c (ahd g c w))) = runs (call (d + 8)) 251 136 [vR 70, vI w, vI (g.gl w), vI t, vI (ahd g c w), vI 1, vI (stdAt g c (ahd g c w)), vI o'] [] (mset (mset (mset I 88 0 (frm g c (ahd g c w))) 88 1 (stdAt g c (ahd g c w))) 88 2 (if cby g c w = -1 then 0 else 1)) := by
    have c1 := m_carries (d := d + 6) (I := mset (mset I 88 0 (frm g c (ahd g c w))) 88 1 (stdAt g c (ahd g c w))) (((set88_L (I := I) 0 (frm g c (ahd g c w))).trans (set88_L 1 _)).RG hR) (set88_MS _ _ (set88_MS _ _ hM)) hg hV (w := w) (by omega)
    by_cases h : cby g c w = -1
    · rw [if_pos h]
      simp (disch := omega) only [r251_0, r251_1, r251_4, r251_5, r251_6, r251_7, r251_10, r251_11, r251_13, r251_14, r251_17, r251_18, r251_19, r251_20, r251_21, r251_24, r251_27, r251_28, r251_31, r251_32, r251_34, r251_35, r251_37, r251_38, r251_40, r251_42, r251_43, r251_46, r251_49, r251_51, r251_53, r251_56, r251_57, r251_60, r251_62, r251_63, r251_65, r251_68, r251_69, r251_72, r251_73, r251_74, r251_76, r251_79, r251_82, r251_83, r251_86, r251_87, r251_89, r251_92, r251_93, r251_95, r251_98, r251_101, r251_102, r251_105, r251_106, r251_107, r251_108, r251_111, r251_112, r251_114, r251_115, r251_116, r251_117, r251_120, r251_121, r251_122, r251_123, r251_126, r251_127, r251_130, r251_131, r251_134, r251_135, r251_137, r251_140, r251_141, r251_142, r251_143, r251_144, r251_147, r251_150, r251_151, r251_154, r251_155, r251_156, r251_157, r251_160, r251_161, r251_162, r251_163, r251_164, r251_165, r251_168, r251_169, r251_170, r251_171, r251_172, ↓if_pos, ↓if_neg, c1, Option.bind_some, pushR_s]
    · rw [if_neg h]
      simp (disch := omega) only [r251_0, r251_1, r251_4, r251_5, r251_6, r251_7, r251_10, r251_11, r251_13, r251_14, r251_17, r251_18, r251_19, r251_20, r251_21, r251_24, r251_27, r251_28, r251_31, r251_32, r251_34, r251_35, r251_37, r251_38, r251_40, r251_42, r251_43, r251_46, r251_49, r251_51, r251_53, r251_56, r251_57, r251_60, r251_62, r251_63, r251_65, r251_68, r251_69, r251_72, r251_73, r251_74, r251_76, r251_79, r251_82, r251_83, r251_86, r251_87, r251_89, r251_92, r251_93, r251_95, r251_98, r251_101, r251_102, r251_105, r251_106, r251_107, r251_108, r251_111, r251_112, r251_114, r251_115, r251_116, r251_117, r251_120, r251_121, r251_122, r251_123, r251_126, r251_127, r251_130, r251_131, r251_134, r251_135, r251_137, r251_140, r251_141, r251_142, r251_143, r251_144, r251_147, r251_150, r251_151, r251_154, r251_155, r251_156, r251_157, r251_160, r251_161, r251_162, r251_163, r251_164, r251_165, r251_168, r251_169, r251_170, r251_171, r251_172, ↓if_pos, ↓if_neg, c1, Option.bind_some, pushR_s]
  have f3 : FrL I (mset (mset (mset I 88 0 (frm g c (ahd g c w))) 88 1 (stdAt g c (ahd g c w))) 88 2 (if cby g c w = -1 then 0 else 1)) := ((set88_L _ _).trans (set88_L _ _)).trans (set88_L _ _)
  have s3 : MS (mset (mset (mset I 88 0 (frm g c (ahd g c w))) 88 1 (stdAt g c (ahd g c w))) 88 2 (if cby g c w = -1 then 0 else 1)) g c := set88_MS _ _ (set88_MS _ _ (set88_MS _ _ hM))
  obtain ⟨K, c5, s5, f5⟩ := m_mayTakeOne (d := d) (f3.RG hR) s3 hg hV hw
  have k88 : ∀ i, K 88 i = (mset (mset (mset I 88 0 (frm g c (ahd g c w))) 88 1 (stdAt g c (ahd g c w))) 88 2 (if cby g c w = -1 then 0 else 1)) 88 i := fun i => f5 88 i (by omega) (by omega) (by omega) (by omega) (by omega)
  have e0 : K 88 0 = frm g c (ahd g c w) := by rw [k88]; simp [mset_at]
  have e1 : K 88 1 = stdAt g c (ahd g c w) := by rw [k88]; simp [mset_at]
  have e2 : K 88 2 = if cby g c w = -1 then 0 else 1 := by rw [k88]; simp [mset_at]
  refine ⟨mset (mset (mset K 88 3 (tak g c w)) 88 4 w) 88 5 t, ?_, fun ch hch => ?_, set88_MS _ _ (set88_MS _ _ (set88_MS _ _ s5)), (((f3.trans f5.L).trans (set88_L _ _)).trans (set88_L _ _)).trans (set88_L _ _)⟩
  · rw [h1, h2, h3, h4]
    have ht : tak g c w = 0 ∨ tak g c w = 1 := by unfold tak; split <;> omega
    rcases ht with z | z <;> rw [z] at c5 ⊢ <;> simp (disch := omega) only [r251_0, r251_1, r251_4, r251_5, r251_6, r251_7, r251_10, r251_11, r251_13, r251_14, r251_17, r251_18, r251_19, r251_20, r251_21, r251_24, r251_27, r251_28, r251_31, r251_32, r251_34, r251_35, r251_37, r251_38, r251_40, r251_42, r251_43, r251_46, r251_49, r251_51, r251_53, r251_56, r251_57, r251_60, r251_62, r251_63, r251_65, r251_68, r251_69, r251_72, r251_73, r251_74, r251_76, r251_79, r251_82, r251_83, r251_86, r251_87, r251_89, r251_92, r251_93, r251_95, r251_98, r251_101, r251_102, r251_105, r251_106, r251_107, r251_108, r251_111, r251_112, r251_114, r251_115, r251_116, r251_117, r251_120, r251_121, r251_122, r251_123, r251_126, r251_127, r251_130, r251_131, r251_134, r251_135, r251_136, r251_137, r251_140, r251_141, r251_142, r251_143, r251_144, r251_147, r251_150, r251_151, r251_154, r251_155, r251_156, r251_157, r251_160, r251_161, r251_162, r251_163, r251_164, r251_165, r251_168, r251_169, r251_170, r251_171, r251_172, ↓if_pos, ↓if_neg, c5, Option.bind_some, pushR_s]
  · have h := of_decide_eq_true hch
    rcases h with rfl | rfl | rfl | rfl | rfl | rfl
    · show (mset (mset (mset K 88 3 (tak g c w)) 88 4 w) 88 5 t) 88 0 = frm g c (ahd g c w)
      rw [mset_at, if_neg (by omega), mset_at, if_neg (by omega), mset_at, if_neg (by omega)]; exact e0
    · show (mset (mset (mset K 88 3 (tak g c w)) 88 4 w) 88 5 t) 88 1 = stdAt g c (ahd g c w)
      rw [mset_at, if_neg (by omega), mset_at, if_neg (by omega), mset_at, if_neg (by omega)]; exact e1
    · show (mset (mset (mset K 88 3 (tak g c w)) 88 4 w) 88 5 t) 88 2 = if cby g c w = -1 then 0 else 1
      rw [mset_at, if_neg (by omega), mset_at, if_neg (by omega), mset_at, if_neg (by omega)]; exact e2
    · show (mset (mset (mset K 88 3 (tak g c w)) 88 4 w) 88 5 t) 88 3 = tak g c w
      rw [mset_at, if_neg (by omega), mset_at, if_neg (by omega), mset_at, if_pos ⟨rfl, rfl⟩]
    · show (mset (mset (mset K 88 3 (tak g c w)) 88 4 w) 88 5 t) 88 4 = w
      rw [mset_at, if_neg (by omega), mset_at, if_pos ⟨rfl, rfl⟩]
    · show (mset (mset (mset K 88 3 (tak g c w)) 88 4 w) 88 5 t) 88 5 = t
      rw [mset_at, if_pos ⟨rfl, rfl⟩]
end
