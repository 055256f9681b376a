/-! In mist: the model goes. -/
def FrE (I J : MM) : Prop := ∀ a i, ¬ (77 ≤ a ∧ a ≤ 80) → ¬ (86 ≤ a ∧ a ≤ 88) → ¬ (a = 70 ∧ ((9 ≤ i ∧ i ≤ 12) ∨ (29 ≤ i ∧ i ≤ 36))) → J a i = I a i
section
variable {d e : Nat} {I J K : MM} {r : Int → Int} {g : G} {c w k x y t v b p n m : Int} {s : ST}
theorem FrE.trans (f : FrE I J) (f' : FrE J K) : FrE I K := fun a i q1 q2 q3 => (f' a i q1 q2 q3).trans (f a i q1 q2 q3)
theorem FrE.refl : FrE I I := fun _ _ _ _ _ => rfl
theorem FrL.E (f : FrL I J) : FrE I J := fun a i q1 q2 q3 => f a i (by omega) (by omega) (by omega) (by omega) (by omega) (by omega)
theorem FrT.E (f : FrT I J) : FrE I J := fun a i q1 q2 q3 => f a i (by omega) (by omega) (by omega)
theorem FrE.RG (f : FrE I J) (hR : RG I g) : RG J g := hR.cong (fun i => f 71 i (by omega) (by omega) (by omega))
theorem Fr8.E (f : Fr8 I J) : FrE I J := f.L.E
theorem FrT.MS (f : FrT I J) (h : MS I g c) : MS J g c := h.cong (fun i => f _ _ (by omega) (by omega) (by omega)) (fun i => f _ _ (by omega) (by omega) (by omega))
theorem m_goesLost (hR : RG I g) (hM : MS I g c) (hg : WG g) (hV : VC g c) (h : RB r) (hr : RMf (I 71) r) (hw : 0 ≤ w ∧ w < g.nW) : ∃ J, call (d + 10) 252 [vR 70, vI w, vI t] I = some (some (vI (if mgo r g t w c = -1 then 1 else 0)), J) ∧ MS J g (if mgo r g t w c = -1 then c else mgo r g t w c) ∧ FrE I J := by
  have hn := hg.nW3
  have hb2 := hg.nB2
  have h7 := hg.last7
  have hgl := (hg.2.2.2.2.1 w hw.1 hw.2).2
  have ew := hM.1 w hw.1 hw.2
  have hwb := wAt_b c w
  have hwl := hV.pl hg hw.1 hw.2
  have cg := m_goalOf (d := d + 7) hR hg hw.1 hw.2
  have hc0 := hV.c
  unfold mgo
  by_cases h0 : wAt c w = goalP g w
  · rw [if_pos h0, if_neg (by omega), if_neg (by omega)]
    refine ⟨I, ?_, hM, FrE.refl⟩
    rw [en252]
    simp (disch := omega) only [r252_0, r252_1, r252_4, r252_5, r252_6, r252_7, r252_8, r252_11, r252_14, r252_15, r252_16, r252_17, r252_18, r252_21, r252_22, r252_25, r252_26, r252_27, r252_30, r252_31, r252_34, r252_35, r252_36, r252_37, r252_38, r252_39, r252_40, r252_43, r252_44, r252_47, r252_50, r252_51, r252_54, r252_57, r252_58, r252_61, r252_62, r252_64, r252_66, r252_67, r252_68, r252_71, r252_73, r252_76, r252_77, r252_80, r252_82, r252_83, r252_85, r252_87, r252_88, r252_91, r252_92, r252_93, r252_94, r252_95, r252_96, r252_99, r252_100, r252_103, r252_106, r252_107, r252_110, r252_111, r252_114, r252_115, r252_118, r252_119, r252_120, r252_122, r252_123, r252_126, r252_127, r252_128, r252_131, r252_134, r252_136, r252_137, r252_140, r252_141, r252_142, r252_143, r252_146, r252_149, r252_150, r252_152, r252_154, r252_155, r252_158, r252_159, r252_160, r252_161, r252_163, r252_164, r252_167, r252_168, r252_171, r252_172, r252_173, r252_175, r252_177, r252_178, r252_181, r252_182, r252_185, r252_186, r252_189, r252_190, r252_193, r252_194, r252_197, r252_198, r252_201, r252_202, ↓if_pos, ↓if_neg, ew, cg, Option.bind_some, pushR_s]
  · rw [if_neg h0]
    obtain ⟨J1, c1, l1, s1, f1⟩ := m_layLetters (d := d) (t := t) hR hM hg hV hw h0
    have hr1 : RMf (J1 71) r := by
      have : ∀ i, J1 71 i = I 71 i := fun i => f1 71 i (by omega) (by omega) (by omega) (by omega) (by omega) (by omega)
      exact ⟨(this _).trans hr.1, fun i i0 i1 => (this _).trans (hr.2 i i0 i1)⟩
    obtain ⟨J2, c2, e30, e36, f2⟩ := m_reads (d := d + 5) h hr1 l1
    have s2 := f2.MS s1
    have fE : FrE I J2 := f1.E.trans f2.E
    have hR2 := fE.RG hR
    have hst : call (d + 10) 252 [vR 70, vI w, vI t] I = runs (call (d + 9)) 252 85 [vR 70, vI w, vI t, vI (g.gl w), vL (lrem (rval r g c w t) 4), vR 0, vI (ch4 (rval r g c w t)), vR 0] [] J2 := by
      have hway : runs (call (d + 9)) 252 0 [vR 70, vI w, vI t, vR 0, vR 0, vR 0, vR 0, vR 0] [] I = runs (call (d + 9)) 252 36 [vR 70, vI w, vI t, vI (g.gl w), vR 0, vR 0, vR 0, vR 0] [] I := by
        rcases hgl with z | z
        · have hgp : goalP g w = 0 := by unfold goalP; rw [if_pos z]
          rw [hgp] at cg h0
          rw [z]
          simp (disch := omega) only [r252_0, r252_1, r252_4, r252_5, r252_6, r252_7, r252_8, r252_11, r252_14, r252_15, r252_16, r252_17, r252_18, r252_21, r252_22, r252_25, r252_26, r252_27, r252_30, r252_31, r252_34, r252_35, r252_37, r252_38, r252_39, r252_40, r252_43, r252_44, r252_47, r252_50, r252_51, r252_54, r252_57, r252_58, r252_61, r252_62, r252_64, r252_66, r252_67, r252_68, r252_71, r252_73, r252_76, r252_77, r252_80, r252_82, r252_83, r252_85, r252_87, r252_88, r252_91, r252_92, r252_93, r252_94, r252_95, r252_96, r252_99, r252_100, r252_103, r252_106, r252_107, r252_110, r252_111, r252_114, r252_115, r252_118, r252_119, r252_120, r252_122, r252_123, r252_126, r252_127, r252_128, r252_131, r252_134, r252_136, r252_137, r252_140, r252_141, r252_142, r252_143, r252_146, r252_149, r252_150, r252_152, r252_154, r252_155, r252_158, r252_159, r252_160, r252_161, r252_163, r252_164, r252_167, r252_168, r252_171, r252_172, r252_173, r252_175, r252_177, r252_178, r252_181, r252_182, r252_185, r252_186, r252_189, r252_190, r252_193, r252_194, r252_197, r252_198, r252_201, r252_202, ↓if_pos, ↓if_neg, ew, cg, Option.bind_some, pushR_s]
        · have hgp : goalP g w = g.last := by unfold goalP; rw [if_neg (by omega)]
          rw [hgp] at cg h0
          rw [z]
          simp (disch := omega) only [r252_0, r252_1, r252_4, r252_5, r252_6, r252_7, r252_8, r252_11, r252_14, r252_15, r252_16, r252_17, r252_18, r252_21, r252_22, r252_25, r252_26, r252_27, r252_30, r252_31, r252_34, r252_35, r252_37, r252_38, r252_39, r252_40, r252_43, r252_44, r252_47, r252_50, r252_51, r252_54, r252_57, r252_58, r252_61, r252_62, r252_64, r252_66, r252_67, r252_68, r252_71, r252_73, r252_76, r252_77, r252_80, r252_82, r252_83, r252_85, r252_87, r252_88, r252_91, r252_92, r252_93, r252_94, r252_95, r252_96, r252_99, r252_100, r252_103, r252_106, r252_107, r252_110, r252_111, r252_114, r252_115, r252_118, r252_119, r252_120, r252_122, r252_123, r252_126, r252_127, r252_128, r252_131, r252_134, r252_136, r252_137, r252_140, r252_141, r252_142, r252_143, r252_146, r252_149, r252_150, r252_152, r252_154, r252_155, r252_158, r252_159, r252_160, r252_161, r252_163, r252_164, r252_167, r252_168, r252_171, r252_172, r252_173, r252_175, r252_177, r252_178, r252_181, r252_182, r252_185, r252_186, r252_189, r252_190, r252_193, r252_194, r252_197, r252_198, r252_201, r252_202, ↓if_pos, ↓if_neg, ew, cg, Option.bind_some, pushR_s]
      have hch := ch4_b (v := rval r g c w t)
      have el : ∀ q : Int, 0 ≤ q ∧ q ≤ 3 → l2i q = q := fun q hq => by
        have : q = 0 ∨ q = 1 ∨ q = 2 ∨ q = 3 := by omega
        rcases this with rfl | rfl | rfl | rfl <;> decide
      have hl4 := lrem4 (v := rval r g c w t)
      rw [en252, hway]
      by_cases hp : (pR r).2.1 = -1
      · have hv : rval r g c w t = J2 70 36 := by rw [e36 hp]; unfold rval; rw [if_pos hp]
        rw [if_pos hp] at c2
        unfold ch4
        rw [hv] at hl4 ⊢
        generalize hze : J2 70 36 = z at *
        clear e36 hv hch
        by_cases hz : lrem z 4 < 0
        · rw [if_pos hz]
          simp (disch := omega) only [r252_0, r252_1, r252_4, r252_5, r252_6, r252_7, r252_8, r252_11, r252_14, r252_15, r252_16, r252_17, r252_18, r252_21, r252_22, r252_25, r252_26, r252_27, r252_30, r252_31, r252_34, r252_35, r252_36, r252_37, r252_38, r252_39, r252_40, r252_43, r252_44, r252_47, r252_50, r252_51, r252_54, r252_57, r252_58, r252_61, r252_62, r252_64, r252_66, r252_67, r252_68, r252_71, r252_73, r252_76, r252_77, r252_80, r252_82, r252_83, r252_87, r252_88, r252_91, r252_92, r252_93, r252_94, r252_95, r252_96, r252_99, r252_100, r252_103, r252_106, r252_107, r252_110, r252_111, r252_114, r252_115, r252_118, r252_119, r252_120, r252_122, r252_123, r252_126, r252_127, r252_128, r252_131, r252_134, r252_136, r252_137, r252_140, r252_141, r252_142, r252_143, r252_146, r252_149, r252_150, r252_152, r252_154, r252_155, r252_158, r252_159, r252_160, r252_161, r252_163, r252_164, r252_167, r252_168, r252_171, r252_172, r252_173, r252_175, r252_177, r252_178, r252_181, r252_182, r252_185, r252_186, r252_189, r252_190, r252_193, r252_194, r252_197, r252_198, r252_201, r252_202, ↓if_pos, ↓if_neg, kill, c1, c2, hze, ladd_eq, el, Option.bind_some, pushR_s, pushR_n]
        · rw [if_neg hz]
          simp (disch := omega) only [r252_0, r252_1, r252_4, r252_5, r252_6, r252_7, r252_8, r252_11, r252_14, r252_15, r252_16, r252_17, r252_18, r252_21, r252_22, r252_25, r252_26, r252_27, r252_30, r252_31, r252_34, r252_35, r252_36, r252_37, r252_38, r252_39, r252_40, r252_43, r252_44, r252_47, r252_50, r252_51, r252_54, r252_57, r252_58, r252_61, r252_62, r252_64, r252_66, r252_67, r252_68, r252_71, r252_73, r252_76, r252_77, r252_80, r252_82, r252_83, r252_87, r252_88, r252_91, r252_92, r252_93, r252_94, r252_95, r252_96, r252_99, r252_100, r252_103, r252_106, r252_107, r252_110, r252_111, r252_114, r252_115, r252_118, r252_119, r252_120, r252_122, r252_123, r252_126, r252_127, r252_128, r252_131, r252_134, r252_136, r252_137, r252_140, r252_141, r252_142, r252_143, r252_146, r252_149, r252_150, r252_152, r252_154, r252_155, r252_158, r252_159, r252_160, r252_161, r252_163, r252_164, r252_167, r252_168, r252_171, r252_172, r252_173, r252_175, r252_177, r252_178, r252_181, r252_182, r252_185, r252_186, r252_189, r252_190, r252_193, r252_194, r252_197, r252_198, r252_201, r252_202, ↓if_pos, ↓if_neg, kill, c1, c2, hze, el, Option.bind_some, pushR_s, pushR_n]
      · have hv : rval r g c w t = 0 := by unfold rval; rw [if_neg hp]
        rw [if_neg hp] at c2
        rw [hv, show lrem 0 4 = 0 by decide, show ch4 0 = 0 by decide]
        simp (disch := omega) only [r252_0, r252_1, r252_4, r252_5, r252_6, r252_7, r252_8, r252_11, r252_14, r252_15, r252_16, r252_17, r252_18, r252_21, r252_22, r252_25, r252_26, r252_27, r252_30, r252_31, r252_34, r252_35, r252_36, r252_37, r252_38, r252_39, r252_40, r252_43, r252_44, r252_47, r252_50, r252_51, r252_54, r252_57, r252_58, r252_61, r252_62, r252_64, r252_66, r252_67, r252_68, r252_71, r252_73, r252_76, r252_77, r252_80, r252_82, r252_83, r252_87, r252_88, r252_91, r252_92, r252_93, r252_94, r252_95, r252_96, r252_99, r252_100, r252_103, r252_106, r252_107, r252_110, r252_111, r252_114, r252_115, r252_118, r252_119, r252_120, r252_122, r252_123, r252_126, r252_127, r252_128, r252_131, r252_134, r252_136, r252_137, r252_140, r252_141, r252_142, r252_143, r252_146, r252_149, r252_150, r252_152, r252_154, r252_155, r252_158, r252_159, r252_160, r252_161, r252_163, r252_164, r252_167, r252_168, r252_171, r252_172, r252_173, r252_175, r252_177, r252_178, r252_181, r252_182, r252_185, r252_186, r252_189, r252_190, r252_193, r252_194, r252_197, r252_198, r252_201, r252_202, ↓if_pos, ↓if_neg, kill, c1, c2, el, Option.bind_some, pushR_s, pushR_n]
    have hch := ch4_b (v := rval r g c w t)
    generalize lrem (rval r g c w t) 4 = zz at *
    generalize ch4 (rval r g c w t) = q at *
    clear e36 e30 c1 c2 l1
    rw [hst]
    have hq4 : q = 0 ∨ q = 1 ∨ q = 2 ∨ q = 3 := by omega
    rcases hq4 with rfl | rfl | rfl | rfl
    · have ha : aof g c w 0 = -1 := by unfold aof; rw [if_neg (by omega), if_neg (by omega), if_neg (by omega)]
      rw [if_pos ha, if_neg (by omega), if_neg (by omega)]
      refine ⟨J2, ?_, s2, fE⟩
      simp (disch := omega) only [r252_0, r252_1, r252_4, r252_5, r252_6, r252_7, r252_8, r252_11, r252_14, r252_15, r252_16, r252_17, r252_18, r252_21, r252_22, r252_25, r252_26, r252_27, r252_30, r252_31, r252_34, r252_35, r252_36, r252_37, r252_38, r252_39, r252_40, r252_43, r252_44, r252_47, r252_50, r252_51, r252_54, r252_57, r252_58, r252_61, r252_62, r252_64, r252_66, r252_67, r252_68, r252_71, r252_73, r252_76, r252_77, r252_80, r252_82, r252_83, r252_85, r252_87, r252_88, r252_91, r252_92, r252_93, r252_94, r252_95, r252_96, r252_99, r252_100, r252_103, r252_106, r252_107, r252_110, r252_111, r252_114, r252_115, r252_118, r252_119, r252_120, r252_122, r252_123, r252_126, r252_127, r252_128, r252_131, r252_134, r252_136, r252_137, r252_140, r252_141, r252_142, r252_143, r252_146, r252_149, r252_150, r252_152, r252_154, r252_155, r252_158, r252_159, r252_160, r252_161, r252_163, r252_164, r252_167, r252_168, r252_171, r252_172, r252_173, r252_175, r252_177, r252_178, r252_181, r252_182, r252_185, r252_186, r252_189, r252_190, r252_193, r252_194, r252_197, r252_198, r252_201, r252_202, ↓if_pos, ↓if_neg]
    · have ha : aof g c w 1 = 64 * w + 8 * g.gl w := by unfold aof; rw [if_pos rfl]
      rw [ha, if_neg (show ¬ (64 * w + 8 * g.gl w = -1) by omega), out_walk (by omega) hgl]
      have hs : such g 0 w (g.gl w) 0 := ⟨hw.2, by rw [if_pos (Or.inl rfl)]; omega⟩
      have hR3 := (memA_f8 (I := J2) (k := 0) (w := w) (x := g.gl w) (y := 0)).RG hR2
      have s3 : MS (memA J2 0 w (g.gl w) 0) g c := s2.cong (fun i => memA_o (by omega)) (fun i => memA_o (by omega))
      have c3 := m_canBe (d := d + 3) hR3 s3 hg hV memA_AF (by omega) hw.1 (show 0 ≤ g.gl w by omega) (Int.le_refl 0) hs
      by_cases hc : can g c 0 w (g.gl w) 0
      · rw [if_pos hc] at c3
        obtain ⟨J3, c4, f4, s4⟩ := m_tryAct (d := d + 2) hR3 s3 hg hV memA_AF (by omega) hw.1 (show 0 ≤ g.gl w by omega) (Int.le_refl 0)
        have f5 : FrE I J3 := (fE.trans memA_f8.E).trans f4.to8'.E
        by_cases ho : 0 ≤ outk g c 0 w (g.gl w) 0
        · rw [if_pos ho, if_neg (by omega), if_neg (by omega)]
          have e1 : rso (outk g c 0 w (g.gl w) 0) = 0 := by unfold rso; rw [if_neg (by omega)]
          have e2 : sto c (outk g c 0 w (g.gl w) 0) = outk g c 0 w (g.gl w) 0 := by unfold sto; rw [if_neg (by omega)]
          rw [e1] at c4
          rw [e2] at s4
          refine ⟨J3, ?_, s4, f5⟩
          clear s4 e1 e2 hs hc ho
          simp (disch := omega) only [r252_0, r252_1, r252_4, r252_5, r252_6, r252_7, r252_8, r252_11, r252_14, r252_15, r252_16, r252_17, r252_18, r252_21, r252_22, r252_25, r252_26, r252_27, r252_30, r252_31, r252_34, r252_35, r252_36, r252_37, r252_38, r252_39, r252_40, r252_43, r252_44, r252_47, r252_50, r252_51, r252_54, r252_57, r252_58, r252_61, r252_62, r252_64, r252_66, r252_67, r252_68, r252_71, r252_73, r252_76, r252_77, r252_80, r252_82, r252_83, r252_85, r252_87, r252_88, r252_91, r252_92, r252_93, r252_94, r252_95, r252_96, r252_99, r252_100, r252_103, r252_106, r252_107, r252_110, r252_111, r252_114, r252_115, r252_118, r252_119, r252_120, r252_122, r252_123, r252_126, r252_127, r252_128, r252_131, r252_134, r252_136, r252_137, r252_140, r252_141, r252_142, r252_143, r252_146, r252_149, r252_150, r252_152, r252_154, r252_155, r252_158, r252_159, r252_160, r252_161, r252_163, r252_164, r252_167, r252_168, r252_171, r252_172, r252_173, r252_175, r252_177, r252_178, r252_181, r252_182, r252_185, r252_186, r252_189, r252_190, r252_193, r252_194, r252_197, r252_198, r252_201, r252_202, ↓if_pos, ↓if_neg, m_setAct, c3, c4, Option.bind_some, pushR_s, pushR_n]
        · have ho3 : outk g c 0 w (g.gl w) 0 = -3 := by
            by_cases hwl2 : well g (nxt g c 0 w (g.gl w) 0)
            · rw [outk_w hs hc hwl2] at ho
              exact absurd (vc_nxt hg hV (by omega) hw.1 (show 0 ≤ g.gl w by omega) (Int.le_refl 0) hs hc).c.1 ho
            · exact outk_x hs hc hwl2
          rw [if_neg ho, if_pos (Or.inl ho3), if_pos rfl, if_pos rfl]
          rw [ho3] at c4 s4
          refine ⟨J3, ?_, s4, f5⟩
          have e1 : rso (-3) = 3 := by decide
          rw [e1] at c4
          clear s4 e1 hs hc ho ho3
          simp (disch := omega) only [r252_0, r252_1, r252_4, r252_5, r252_6, r252_7, r252_8, r252_11, r252_14, r252_15, r252_16, r252_17, r252_18, r252_21, r252_22, r252_25, r252_26, r252_27, r252_30, r252_31, r252_34, r252_35, r252_36, r252_37, r252_38, r252_39, r252_40, r252_43, r252_44, r252_47, r252_50, r252_51, r252_54, r252_57, r252_58, r252_61, r252_62, r252_64, r252_66, r252_67, r252_68, r252_71, r252_73, r252_76, r252_77, r252_80, r252_82, r252_83, r252_85, r252_87, r252_88, r252_91, r252_92, r252_93, r252_94, r252_95, r252_96, r252_99, r252_100, r252_103, r252_106, r252_107, r252_110, r252_111, r252_114, r252_115, r252_118, r252_119, r252_120, r252_122, r252_123, r252_126, r252_127, r252_128, r252_131, r252_134, r252_136, r252_137, r252_140, r252_141, r252_142, r252_143, r252_146, r252_149, r252_150, r252_152, r252_154, r252_155, r252_158, r252_159, r252_160, r252_161, r252_163, r252_164, r252_167, r252_168, r252_171, r252_172, r252_173, r252_175, r252_177, r252_178, r252_181, r252_182, r252_185, r252_186, r252_189, r252_190, r252_193, r252_194, r252_197, r252_198, r252_201, r252_202, ↓if_pos, ↓if_neg, m_setAct, c3, c4, Option.bind_some, pushR_s, pushR_n]
      · rw [if_neg hc] at c3
        have ho : outk g c 0 w (g.gl w) 0 = -2 := outk_c hs hc
        rw [if_neg (show ¬ 0 ≤ outk g c 0 w (g.gl w) 0 by omega), if_pos (show outk g c 0 w (g.gl w) 0 = -3 ∨ (1 : Int) = 1 from Or.inr rfl), if_pos rfl, if_pos rfl]
        refine ⟨memA J2 0 w (g.gl w) 0, ?_, s3, fE.trans memA_f8.E⟩
        clear hs hc ho
        simp (disch := omega) only [r252_0, r252_1, r252_4, r252_5, r252_6, r252_7, r252_8, r252_11, r252_14, r252_15, r252_16, r252_17, r252_18, r252_21, r252_22, r252_25, r252_26, r252_27, r252_30, r252_31, r252_34, r252_35, r252_36, r252_37, r252_38, r252_39, r252_40, r252_43, r252_44, r252_47, r252_50, r252_51, r252_54, r252_57, r252_58, r252_61, r252_62, r252_64, r252_66, r252_67, r252_68, r252_71, r252_73, r252_76, r252_77, r252_80, r252_82, r252_83, r252_85, r252_87, r252_88, r252_91, r252_92, r252_93, r252_94, r252_95, r252_96, r252_99, r252_100, r252_103, r252_106, r252_107, r252_110, r252_111, r252_114, r252_115, r252_118, r252_119, r252_120, r252_122, r252_123, r252_126, r252_127, r252_128, r252_131, r252_134, r252_136, r252_137, r252_140, r252_141, r252_142, r252_143, r252_146, r252_149, r252_150, r252_152, r252_154, r252_155, r252_158, r252_159, r252_160, r252_161, r252_163, r252_164, r252_167, r252_168, r252_171, r252_172, r252_173, r252_175, r252_177, r252_178, r252_181, r252_182, r252_185, r252_186, r252_189, r252_190, r252_193, r252_194, r252_197, r252_198, r252_201, r252_202, ↓if_pos, ↓if_neg, m_setAct, c3, Option.bind_some, pushR_s, pushR_n]
    · have cc := m_carries (d := d + 7) hR2 s2 hg hV (w := w) (by omega)
      have hcb := cby_r (g := g) (c := c) (w := w) hg
      by_cases hc : cby g c w = -1
      · have ha : aof g c w 2 = -1 := by unfold aof; rw [if_neg (by omega), if_pos rfl, if_pos hc]
        rw [if_pos ha, if_neg (by omega), if_neg (by omega)]
        rw [hc] at cc
        refine ⟨J2, ?_, s2, fE⟩
        simp (disch := omega) only [r252_0, r252_1, r252_4, r252_5, r252_6, r252_7, r252_8, r252_11, r252_14, r252_15, r252_16, r252_17, r252_18, r252_21, r252_22, r252_25, r252_26, r252_27, r252_30, r252_31, r252_34, r252_35, r252_36, r252_37, r252_38, r252_39, r252_40, r252_43, r252_44, r252_47, r252_50, r252_51, r252_54, r252_57, r252_58, r252_61, r252_62, r252_64, r252_66, r252_67, r252_68, r252_71, r252_73, r252_76, r252_77, r252_80, r252_82, r252_83, r252_85, r252_87, r252_88, r252_91, r252_92, r252_93, r252_94, r252_95, r252_96, r252_99, r252_100, r252_103, r252_106, r252_107, r252_110, r252_111, r252_114, r252_115, r252_118, r252_119, r252_120, r252_122, r252_123, r252_126, r252_127, r252_128, r252_131, r252_134, r252_136, r252_137, r252_140, r252_141, r252_142, r252_143, r252_146, r252_149, r252_150, r252_152, r252_154, r252_155, r252_158, r252_159, r252_160, r252_161, r252_163, r252_164, r252_167, r252_168, r252_171, r252_172, r252_173, r252_175, r252_177, r252_178, r252_181, r252_182, r252_185, r252_186, r252_189, r252_190, r252_193, r252_194, r252_197, r252_198, r252_201, r252_202, ↓if_pos, ↓if_neg, cc, Option.bind_some, pushR_s]
      · have ha : aof g c w 2 = 256 + 64 * w + 8 * cby g c w + g.gl w := by unfold aof; rw [if_neg (by omega), if_pos rfl, if_neg hc]
        rw [ha, if_neg (show ¬ (256 + 64 * w + 8 * cby g c w + g.gl w = -1) by omega), out_lay (by omega) (by omega) hgl]
        generalize cby g c w = b at *
        have hR3 := (memA_f8 (I := J2) (k := 1) (w := w) (x := b) (y := g.gl w)).RG hR2
        have s3 : MS (memA J2 1 w b (g.gl w)) g c := s2.cong (fun i => memA_o (by omega)) (fun i => memA_o (by omega))
        obtain ⟨J3, c4, f4, s4⟩ := m_tryAct (d := d + 2) hR3 s3 hg hV memA_AF (by omega) hw.1 (show 0 ≤ b by omega) (show 0 ≤ g.gl w by omega)
        have f5 : FrE I J3 := (fE.trans memA_f8.E).trans f4.to8'.E
        clear s3 hR3
        generalize outk g c 1 w b (g.gl w) = o at *
        refine ⟨J3, ?_, ?_, f5⟩
        · unfold rso at c4
          by_cases ho : 0 ≤ o
          · rw [if_pos ho, if_neg (by omega)]
            rw [if_neg (by omega)] at c4
            simp (disch := omega) only [r252_0, r252_1, r252_4, r252_5, r252_6, r252_7, r252_8, r252_11, r252_14, r252_15, r252_16, r252_17, r252_18, r252_21, r252_22, r252_25, r252_26, r252_27, r252_30, r252_31, r252_34, r252_35, r252_36, r252_37, r252_38, r252_39, r252_40, r252_43, r252_44, r252_47, r252_50, r252_51, r252_54, r252_57, r252_58, r252_61, r252_62, r252_64, r252_66, r252_67, r252_68, r252_71, r252_73, r252_76, r252_77, r252_80, r252_82, r252_83, r252_85, r252_87, r252_88, r252_91, r252_92, r252_93, r252_94, r252_95, r252_96, r252_99, r252_100, r252_103, r252_106, r252_107, r252_110, r252_111, r252_114, r252_115, r252_118, r252_119, r252_120, r252_122, r252_123, r252_126, r252_127, r252_128, r252_131, r252_134, r252_136, r252_137, r252_140, r252_141, r252_142, r252_143, r252_146, r252_149, r252_150, r252_152, r252_154, r252_155, r252_158, r252_159, r252_160, r252_161, r252_163, r252_164, r252_167, r252_168, r252_171, r252_172, r252_173, r252_175, r252_177, r252_178, r252_181, r252_182, r252_185, r252_186, r252_189, r252_190, r252_193, r252_194, r252_197, r252_198, r252_201, r252_202, ↓if_pos, ↓if_neg, cc, m_setAct, c4, Option.bind_some, pushR_s, pushR_n]
          · rw [if_neg ho]
            rw [if_pos (by omega)] at c4
            by_cases ho3 : o = -3
            · rw [if_pos (Or.inl ho3), if_pos rfl]
              simp (disch := omega) only [r252_0, r252_1, r252_4, r252_5, r252_6, r252_7, r252_8, r252_11, r252_14, r252_15, r252_16, r252_17, r252_18, r252_21, r252_22, r252_25, r252_26, r252_27, r252_30, r252_31, r252_34, r252_35, r252_36, r252_37, r252_38, r252_39, r252_40, r252_43, r252_44, r252_47, r252_50, r252_51, r252_54, r252_57, r252_58, r252_61, r252_62, r252_64, r252_66, r252_67, r252_68, r252_71, r252_73, r252_76, r252_77, r252_80, r252_82, r252_83, r252_85, r252_87, r252_88, r252_91, r252_92, r252_93, r252_94, r252_95, r252_96, r252_99, r252_100, r252_103, r252_106, r252_107, r252_110, r252_111, r252_114, r252_115, r252_118, r252_119, r252_120, r252_122, r252_123, r252_126, r252_127, r252_128, r252_131, r252_134, r252_136, r252_137, r252_140, r252_141, r252_142, r252_143, r252_146, r252_149, r252_150, r252_152, r252_154, r252_155, r252_158, r252_159, r252_160, r252_161, r252_163, r252_164, r252_167, r252_168, r252_171, r252_172, r252_173, r252_175, r252_177, r252_178, r252_181, r252_182, r252_185, r252_186, r252_189, r252_190, r252_193, r252_194, r252_197, r252_198, r252_201, r252_202, ↓if_pos, ↓if_neg, cc, m_setAct, c4, Option.bind_some, pushR_s, pushR_n]
            · rw [if_neg (show ¬ (o = -3 ∨ (2 : Int) = 1) by omega), if_neg (by omega)]
              simp (disch := omega) only [r252_0, r252_1, r252_4, r252_5, r252_6, r252_7, r252_8, r252_11, r252_14, r252_15, r252_16, r252_17, r252_18, r252_21, r252_22, r252_25, r252_26, r252_27, r252_30, r252_31, r252_34, r252_35, r252_36, r252_37, r252_38, r252_39, r252_40, r252_43, r252_44, r252_47, r252_50, r252_51, r252_54, r252_57, r252_58, r252_61, r252_62, r252_64, r252_66, r252_67, r252_68, r252_71, r252_73, r252_76, r252_77, r252_80, r252_82, r252_83, r252_85, r252_87, r252_88, r252_91, r252_92, r252_93, r252_94, r252_95, r252_96, r252_99, r252_100, r252_103, r252_106, r252_107, r252_110, r252_111, r252_114, r252_115, r252_118, r252_119, r252_120, r252_122, r252_123, r252_126, r252_127, r252_128, r252_131, r252_134, r252_136, r252_137, r252_140, r252_141, r252_142, r252_143, r252_146, r252_149, r252_150, r252_152, r252_154, r252_155, r252_158, r252_159, r252_160, r252_161, r252_163, r252_164, r252_167, r252_168, r252_171, r252_172, r252_173, r252_175, r252_177, r252_178, r252_181, r252_182, r252_185, r252_186, r252_189, r252_190, r252_193, r252_194, r252_197, r252_198, r252_201, r252_202, ↓if_pos, ↓if_neg, cc, m_setAct, c4, Option.bind_some, pushR_s, pushR_n]
        · unfold sto at s4
          by_cases ho : 0 ≤ o
          · rw [if_neg (by omega)] at s4
            rw [if_pos ho, if_neg (by omega)]; exact s4
          · rw [if_pos (by omega)] at s4
            rw [if_neg ho]
            by_cases ho3 : o = -3
            · rw [if_pos (Or.inl ho3), if_pos rfl]; exact s4
            · rw [if_neg (show ¬ (o = -3 ∨ (2 : Int) = 1) by omega), if_neg (by omega)]; exact s4
    · have cc := m_boardBehind (d := d + 6) hR2 s2 hg hw
      have ha : aof g c w 3 = if bover g c (awy g c w) = -1 then -1 else 512 + 64 * w + 8 * bover g c (awy g c w) := by unfold aof; rw [if_neg (by omega), if_neg (by omega), if_pos rfl]
      rw [ha]
      by_cases hc : bbh g c w = -1
      · have hres : (if (if bover g c (awy g c w) = -1 then -1 else 512 + 64 * w + 8 * bover g c (awy g c w)) = -1 then c else if 0 ≤ outc g c (if bover g c (awy g c w) = -1 then -1 else 512 + 64 * w + 8 * bover g c (awy g c w)) then outc g c (if bover g c (awy g c w) = -1 then -1 else 512 + 64 * w + 8 * bover g c (awy g c w)) else if outc g c (if bover g c (awy g c w) = -1 then -1 else 512 + 64 * w + 8 * bover g c (awy g c w)) = -3 ∨ (3 : Int) = 1 then -1 else c) = c := by
          have hbo := bover_b (g := g) (c := c) (p := awy g c w) hg
          by_cases hq : bover g c (awy g c w) = -1
          · rw [if_pos hq, if_pos rfl]
          · rw [if_neg hq, if_neg (show ¬ (512 + 64 * w + 8 * bover g c (awy g c w) = -1) by omega), out_take (by omega) (by omega)]
            have hno := not_bhd hg hV hw rfl hq (bbh_no hg hw hc _ (by omega) (by omega))
            rw [if_neg (by omega), if_neg (fun z => z.elim hno.2 (by omega))]
        rw [hres, if_neg (by omega), if_neg (by omega)]
        rw [hc] at cc
        refine ⟨J2, ?_, s2, fE⟩
        simp (disch := omega) only [r252_0, r252_1, r252_4, r252_5, r252_6, r252_7, r252_8, r252_11, r252_14, r252_15, r252_16, r252_17, r252_18, r252_21, r252_22, r252_25, r252_26, r252_27, r252_30, r252_31, r252_34, r252_35, r252_36, r252_37, r252_38, r252_39, r252_40, r252_43, r252_44, r252_47, r252_50, r252_51, r252_54, r252_57, r252_58, r252_61, r252_62, r252_64, r252_66, r252_67, r252_68, r252_71, r252_73, r252_76, r252_77, r252_80, r252_82, r252_83, r252_85, r252_87, r252_88, r252_91, r252_92, r252_93, r252_94, r252_95, r252_96, r252_99, r252_100, r252_103, r252_106, r252_107, r252_110, r252_111, r252_114, r252_115, r252_118, r252_119, r252_120, r252_122, r252_123, r252_126, r252_127, r252_128, r252_131, r252_134, r252_136, r252_137, r252_140, r252_141, r252_142, r252_143, r252_146, r252_149, r252_150, r252_152, r252_154, r252_155, r252_158, r252_159, r252_160, r252_161, r252_163, r252_164, r252_167, r252_168, r252_171, r252_172, r252_173, r252_175, r252_177, r252_178, r252_181, r252_182, r252_185, r252_186, r252_189, r252_190, r252_193, r252_194, r252_197, r252_198, r252_201, r252_202, ↓if_pos, ↓if_neg, cc, Option.bind_some, pushR_s]
      · obtain ⟨hq, hb, -⟩ := bbh_bover hg hV hw hc
        rw [← hq, if_neg hc, if_neg (show ¬ (512 + 64 * w + 8 * bbh g c w = -1) by omega), out_take (by omega) (by omega)]
        clear ha hq
        generalize bbh g c w = b at *
        have hR3 := (memA_f8 (I := J2) (k := 2) (w := w) (x := b) (y := 0)).RG hR2
        have s3 : MS (memA J2 2 w b 0) g c := s2.cong (fun i => memA_o (by omega)) (fun i => memA_o (by omega))
        obtain ⟨J3, c4, f4, s4⟩ := m_tryAct (d := d + 2) hR3 s3 hg hV memA_AF (by omega) hw.1 hb.1 (Int.le_refl 0)
        have f5 : FrE I J3 := (fE.trans memA_f8.E).trans f4.to8'.E
        clear s3 hR3
        generalize outk g c 2 w b 0 = o at *
        refine ⟨J3, ?_, ?_, f5⟩
        · unfold rso at c4
          by_cases ho : 0 ≤ o
          · rw [if_pos ho, if_neg (by omega)]
            rw [if_neg (by omega)] at c4
            simp (disch := omega) only [r252_0, r252_1, r252_4, r252_5, r252_6, r252_7, r252_8, r252_11, r252_14, r252_15, r252_16, r252_17, r252_18, r252_21, r252_22, r252_25, r252_26, r252_27, r252_30, r252_31, r252_34, r252_35, r252_36, r252_37, r252_38, r252_39, r252_40, r252_43, r252_44, r252_47, r252_50, r252_51, r252_54, r252_57, r252_58, r252_61, r252_62, r252_64, r252_66, r252_67, r252_68, r252_71, r252_73, r252_76, r252_77, r252_80, r252_82, r252_83, r252_85, r252_87, r252_88, r252_91, r252_92, r252_93, r252_94, r252_95, r252_96, r252_99, r252_100, r252_103, r252_106, r252_107, r252_110, r252_111, r252_114, r252_115, r252_118, r252_119, r252_120, r252_122, r252_123, r252_126, r252_127, r252_128, r252_131, r252_134, r252_136, r252_137, r252_140, r252_141, r252_142, r252_143, r252_146, r252_149, r252_150, r252_152, r252_154, r252_155, r252_158, r252_159, r252_160, r252_161, r252_163, r252_164, r252_167, r252_168, r252_171, r252_172, r252_173, r252_175, r252_177, r252_178, r252_181, r252_182, r252_185, r252_186, r252_189, r252_190, r252_193, r252_194, r252_197, r252_198, r252_201, r252_202, ↓if_pos, ↓if_neg, cc, m_setAct, c4, Option.bind_some, pushR_s, pushR_n]
          · rw [if_neg ho]
            rw [if_pos (by omega)] at c4
            by_cases ho3 : o = -3
            · rw [if_pos (Or.inl ho3), if_pos rfl]
              simp (disch := omega) only [r252_0, r252_1, r252_4, r252_5, r252_6, r252_7, r252_8, r252_11, r252_14, r252_15, r252_16, r252_17, r252_18, r252_21, r252_22, r252_25, r252_26, r252_27, r252_30, r252_31, r252_34, r252_35, r252_36, r252_37, r252_38, r252_39, r252_40, r252_43, r252_44, r252_47, r252_50, r252_51, r252_54, r252_57, r252_58, r252_61, r252_62, r252_64, r252_66, r252_67, r252_68, r252_71, r252_73, r252_76, r252_77, r252_80, r252_82, r252_83, r252_85, r252_87, r252_88, r252_91, r252_92, r252_93, r252_94, r252_95, r252_96, r252_99, r252_100, r252_103, r252_106, r252_107, r252_110, r252_111, r252_114, r252_115, r252_118, r252_119, r252_120, r252_122, r252_123, r252_126, r252_127, r252_128, r252_131, r252_134, r252_136, r252_137, r252_140, r252_141, r252_142, r252_143, r252_146, r252_149, r252_150, r252_152, r252_154, r252_155, r252_158, r252_159, r252_160, r252_161, r252_163, r252_164, r252_167, r252_168, r252_171, r252_172, r252_173, r252_175, r252_177, r252_178, r252_181, r252_182, r252_185, r252_186, r252_189, r252_190, r252_193, r252_194, r252_197, r252_198, r252_201, r252_202, ↓if_pos, ↓if_neg, cc, m_setAct, c4, Option.bind_some, pushR_s, pushR_n]
            · rw [if_neg (show ¬ (o = -3 ∨ (3 : Int) = 1) by omega), if_neg (by omega)]
              simp (disch := omega) only [r252_0, r252_1, r252_4, r252_5, r252_6, r252_7, r252_8, r252_11, r252_14, r252_15, r252_16, r252_17, r252_18, r252_21, r252_22, r252_25, r252_26, r252_27, r252_30, r252_31, r252_34, r252_35, r252_36, r252_37, r252_38, r252_39, r252_40, r252_43, r252_44, r252_47, r252_50, r252_51, r252_54, r252_57, r252_58, r252_61, r252_62, r252_64, r252_66, r252_67, r252_68, r252_71, r252_73, r252_76, r252_77, r252_80, r252_82, r252_83, r252_85, r252_87, r252_88, r252_91, r252_92, r252_93, r252_94, r252_95, r252_96, r252_99, r252_100, r252_103, r252_106, r252_107, r252_110, r252_111, r252_114, r252_115, r252_118, r252_119, r252_120, r252_122, r252_123, r252_126, r252_127, r252_128, r252_131, r252_134, r252_136, r252_137, r252_140, r252_141, r252_142, r252_143, r252_146, r252_149, r252_150, r252_152, r252_154, r252_155, r252_158, r252_159, r252_160, r252_161, r252_163, r252_164, r252_167, r252_168, r252_171, r252_172, r252_173, r252_175, r252_177, r252_178, r252_181, r252_182, r252_185, r252_186, r252_189, r252_190, r252_193, r252_194, r252_197, r252_198, r252_201, r252_202, ↓if_pos, ↓if_neg, cc, m_setAct, c4, Option.bind_some, pushR_s, pushR_n]
        · unfold sto at s4
          by_cases ho : 0 ≤ o
          · rw [if_neg (by omega)] at s4
            rw [if_pos ho, if_neg (by omega)]; exact s4
          · rw [if_pos (by omega)] at s4
            rw [if_neg ho]
            by_cases ho3 : o = -3
            · rw [if_pos (Or.inl ho3), if_pos rfl]; exact s4
            · rw [if_neg (show ¬ (o = -3 ∨ (3 : Int) = 1) by omega), if_neg (by omega)]; exact s4
end
