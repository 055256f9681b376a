/-! In mist: the class goes. -/
section
variable {d : Nat} {I J K : MM} {r : Int → Int} {g : G} {c w k t v b p n : Int}
theorem x_frm (hA : At 2 I g) (hg : WG g) (hc : 0 ≤ c ∧ c < 131072) : call (d + 4) 25 [vR 2, vI c, vI p] I = some (some (vI (frm g c p)), I) := x_isFirm hA hg hc
theorem aof_b (hg : WG g) (hw : 0 ≤ w ∧ w < g.nW) : -1 ≤ aof g c w k ∧ aof g c w k < 1024 := by
  have hn := hg.nW3
  have hb2 := hg.nB2
  have hgl := (hg.2.2.2.2.1 w hw.1 hw.2).2
  have hcb := cby_r (g := g) (c := c) (w := w) hg
  have hbo := bover_b (g := g) (c := c) (p := awy g c w) hg
  unfold aof
  split
  · omega
  split
  · split <;> omega
  split
  · split <;> omega
  · omega
theorem At.fr (hA : At 2 I g) (f : ∀ a i, a ≠ 35 → J a i = I a i) : At 2 J g := hA.cong (fun a _ _ i => f a i (by omega))
theorem x_look (hA : At 2 I g) (hg : WG g) (hc : 0 ≤ c ∧ c < 131072) (h34 : I 34 1 = c) (hw : 0 ≤ w ∧ w < g.nW) : ∃ J, call (d + 5) 54 [vR 34, vR 2, vI w, vI t] I = some (none, J) ∧ LX J = LSm g c w t ∧ (∀ a i, a ≠ 35 → J a i = I a i) := by
  have hn := hg.nW3
  have eg : I 4 w = g.gl w := hA 2 w (by omega) (by simp [rng]; omega)
  have hgl := (hg.2.2.2.2.1 w hw.1 hw.2).2
  have hwb := wAt_b c w
  have fS : ∀ (M : MM) (j v : Int), (∀ a i, a ≠ 35 → M a i = I a i) → ∀ a i, a ≠ 35 → (mset M 35 j v) a i = I a i := fun M j v f a i h => by rw [mset_at, if_neg (by omega)]; exact f a i h
  have h1 : runs (call (d + 4)) 54 0 [vR 34, vR 2, vI w, vI t, vR 0, vR 0] [] I = runs (call (d + 4)) 54 51 [vR 34, vR 2, vI w, vI t, vI (ahd g c w), vR 0] [] (mset I 35 0 (frm g c (ahd g c w))) := by
    have hat := x_walkerAt (d := d + 3) (I := I) hc (w := w) (by omega)
    have c1 := x_frm (d := d) (p := ahd g c w) hA hg hc
    have ea : wAt c w + stp (g.gl w) = ahd g c w := rfl
    rcases hgl with hgl | hgl
    · rw [hgl, show stp 0 = -1 from rfl] at ea
      rcases frm_c g c (ahd g c w) with ⟨k, -⟩ | ⟨k, -⟩ <;> rw [k] at c1 ⊢ <;> simp (disch := omega) only [r54_0, r54_1, r54_2, r54_5, r54_6, r54_9, r54_10, r54_13, r54_14, r54_15, r54_18, r54_19, r54_22, r54_23, r54_24, r54_26, r54_27, r54_30, r54_31, r54_32, r54_35, r54_37, r54_40, r54_43, r54_44, r54_47, r54_48, r54_52, r54_55, r54_56, r54_57, r54_60, r54_62, r54_65, r54_68, r54_69, r54_72, r54_73, r54_74, r54_77, r54_78, r54_81, r54_82, r54_85, r54_86, r54_89, r54_90, r54_93, r54_94, r54_95, r54_96, r54_97, r54_100, r54_102, r54_103, r54_106, r54_108, r54_109, r54_112, r54_113, r54_114, r54_117, r54_119, r54_122, r54_125, r54_126, r54_129, r54_130, r54_133, r54_134, r54_137, r54_138, r54_141, r54_142, r54_145, r54_146, r54_149, ↓if_pos, ↓if_neg, h34, hat, eg, iadd_eq, ea, c1, Option.bind_some, pushR_s]
    · rw [hgl, show stp 1 = 1 from rfl] at ea
      rcases frm_c g c (ahd g c w) with ⟨k, -⟩ | ⟨k, -⟩ <;> rw [k] at c1 ⊢ <;> simp (disch := omega) only [r54_0, r54_1, r54_2, r54_5, r54_6, r54_9, r54_10, r54_13, r54_14, r54_15, r54_18, r54_19, r54_22, r54_23, r54_24, r54_26, r54_27, r54_30, r54_31, r54_32, r54_35, r54_37, r54_40, r54_43, r54_44, r54_47, r54_48, r54_52, r54_55, r54_56, r54_57, r54_60, r54_62, r54_65, r54_68, r54_69, r54_72, r54_73, r54_74, r54_77, r54_78, r54_81, r54_82, r54_85, r54_86, r54_89, r54_90, r54_93, r54_94, r54_95, r54_96, r54_97, r54_100, r54_102, r54_103, r54_106, r54_108, r54_109, r54_112, r54_113, r54_114, r54_117, r54_119, r54_122, r54_125, r54_126, r54_129, r54_130, r54_133, r54_134, r54_137, r54_138, r54_141, r54_142, r54_145, r54_146, r54_149, ↓if_pos, ↓if_neg, h34, hat, eg, iadd_eq, ea, c1, Option.bind_some, pushR_s]
  have f1 := fS I 0 (frm g c (ahd g c w)) (fun _ _ _ => rfl)
  have h2 : runs (call (d + 4)) 54 51 [vR 34, vR 2, vI w, vI t, vI (ahd g c w), vR 0] [] (mset I 35 0 (frm g c (ahd g c w))) = runs (call (d + 4)) 54 68 [vR 34, vR 2, vI w, vI t, vI (ahd g c w), vR 0] [] (mset (mset I 35 0 (frm g c (ahd g c w))) 35 1 (stdAt g c (ahd g c w))) := by
    have c1 := x_standingAt (d := d + 2) (p := ahd g c w) (hA.fr f1) hg hc
    have e34 := (f1 34 1 (by omega)).trans h34
    simp (disch := omega) only [r54_0, r54_1, r54_2, r54_5, r54_6, r54_9, r54_10, r54_13, r54_14, r54_15, r54_18, r54_19, r54_22, r54_23, r54_24, r54_26, r54_27, r54_30, r54_31, r54_32, r54_35, r54_37, r54_40, r54_43, r54_44, r54_47, r54_48, r54_51, r54_52, r54_55, r54_56, r54_57, r54_60, r54_62, r54_65, r54_69, r54_72, r54_73, r54_74, r54_77, r54_78, r54_81, r54_82, r54_85, r54_86, r54_89, r54_90, r54_93, r54_94, r54_95, r54_96, r54_97, r54_100, r54_102, r54_103, r54_106, r54_108, r54_109, r54_112, r54_113, r54_114, r54_117, r54_119, r54_122, r54_125, r54_126, r54_129, r54_130, r54_133, r54_134, r54_137, r54_138, r54_141, r54_142, r54_145, r54_146, r54_149, ↓if_pos, ↓if_neg, e34, c1, Option.bind_some, pushR_s]
  have f2 := fS _ 1 (stdAt g c (ahd g c w)) f1
  have k1 : (mset (mset I 35 0 (frm g c (ahd g c w))) 35 1 (stdAt g c (ahd g c w))) 35 0 = frm g c (ahd g c w) ∧ (mset (mset I 35 0 (frm g c (ahd g c w))) 35 1 (stdAt g c (ahd g c w))) 35 1 = stdAt g c (ahd g c w) := by simp [mset_at]
  generalize mset (mset I 35 0 (frm g c (ahd g c w))) 35 1 (stdAt g c (ahd g c w)) = M at *
  have h3 : runs (call (d + 4)) 54 68 [vR 34, vR 2, vI w, vI t, vI (ahd g c w), vR 0] [] M = runs (call (d + 4)) 54 93 [vR 34, vR 2, vI w, vI t, vI (ahd g c w), vR 0] [] (mset M 35 2 (if cby g c w = -1 then 0 else 1)) := by
    have c1 := x_carriedBy (d := d + 2) (hA.fr f2) hg hc (w := w) (by omega)
    have e34 := (f2 34 1 (by omega)).trans h34
    by_cases h : cby g c w = -1
    · rw [if_pos h]
      simp (disch := omega) only [r54_0, r54_1, r54_2, r54_5, r54_6, r54_9, r54_10, r54_13, r54_14, r54_15, r54_18, r54_19, r54_22, r54_23, r54_24, r54_26, r54_27, r54_30, r54_31, r54_32, r54_35, r54_37, r54_40, r54_43, r54_44, r54_47, r54_48, r54_51, r54_52, r54_55, r54_56, r54_57, r54_60, r54_62, r54_65, r54_68, r54_69, r54_72, r54_73, r54_74, r54_77, r54_78, r54_81, r54_82, r54_85, r54_86, r54_89, r54_90, r54_94, r54_95, r54_96, r54_97, r54_100, r54_102, r54_103, r54_106, r54_108, r54_109, r54_112, r54_113, r54_114, r54_117, r54_119, r54_122, r54_125, r54_126, r54_129, r54_130, r54_133, r54_134, r54_137, r54_138, r54_141, r54_142, r54_145, r54_146, r54_149, ↓if_pos, ↓if_neg, e34, c1, Option.bind_some, pushR_s]
    · rw [if_neg h]
      simp (disch := omega) only [r54_0, r54_1, r54_2, r54_5, r54_6, r54_9, r54_10, r54_13, r54_14, r54_15, r54_18, r54_19, r54_22, r54_23, r54_24, r54_26, r54_27, r54_30, r54_31, r54_32, r54_35, r54_37, r54_40, r54_43, r54_44, r54_47, r54_48, r54_51, r54_52, r54_55, r54_56, r54_57, r54_60, r54_62, r54_65, r54_68, r54_69, r54_72, r54_73, r54_74, r54_77, r54_78, r54_81, r54_82, r54_85, r54_86, r54_89, r54_90, r54_94, r54_95, r54_96, r54_97, r54_100, r54_102, r54_103, r54_106, r54_108, r54_109, r54_112, r54_113, r54_114, r54_117, r54_119, r54_122, r54_125, r54_126, r54_129, r54_130, r54_133, r54_134, r54_137, r54_138, r54_141, r54_142, r54_145, r54_146, r54_149, ↓if_pos, ↓if_neg, e34, c1, Option.bind_some, pushR_s]
  have f3 := fS _ 2 (if cby g c w = -1 then 0 else 1) f2
  have k3 : (mset M 35 2 (if cby g c w = -1 then 0 else 1)) 35 0 = frm g c (ahd g c w) ∧ (mset M 35 2 (if cby g c w = -1 then 0 else 1)) 35 1 = stdAt g c (ahd g c w) ∧ (mset M 35 2 (if cby g c w = -1 then 0 else 1)) 35 2 = if cby g c w = -1 then 0 else 1 := by
    refine ⟨?_, ?_, by rw [mset_at, if_pos ⟨rfl, rfl⟩]⟩
    · rw [mset_at, if_neg (by omega)]; exact k1.1
    · rw [mset_at, if_neg (by omega)]; exact k1.2
  generalize mset M 35 2 (if cby g c w = -1 then 0 else 1) = M2 at *
  have h4 : runs (call (d + 4)) 54 93 [vR 34, vR 2, vI w, vI t, vI (ahd g c w), vR 0] [] M2 = runs (call (d + 4)) 54 133 [vR 34, vR 2, vI w, vI t, vI (ahd g c w), vI (aof g c w 3)] [] (mset M2 35 3 (tak g c w)) := by
    have e34 := (f3 34 1 (by omega)).trans h34
    have c1 := x_actOf (d := d) (k := 3) (hA.fr f3) hg hc e34 hw
    have c2 := x_outcome (d := d) (a := aof g c w 3) (hA.fr f3) hg hc
    unfold tak
    by_cases h : aof g c w 3 = -1
    · rw [if_neg (fun z => z.1 h)]
      rw [h] at c1 ⊢
      simp (disch := omega) only [r54_0, r54_1, r54_2, r54_5, r54_6, r54_9, r54_10, r54_13, r54_14, r54_15, r54_18, r54_19, r54_22, r54_23, r54_24, r54_26, r54_27, r54_30, r54_31, r54_32, r54_35, r54_37, r54_40, r54_43, r54_44, r54_47, r54_48, r54_51, r54_52, r54_55, r54_56, r54_57, r54_60, r54_62, r54_65, r54_68, r54_69, r54_72, r54_73, r54_74, r54_77, r54_78, r54_81, r54_82, r54_85, r54_86, r54_89, r54_90, r54_93, r54_94, r54_95, r54_96, r54_97, r54_100, r54_102, r54_103, r54_106, r54_108, r54_109, r54_112, r54_113, r54_114, r54_117, r54_119, r54_122, r54_125, r54_126, r54_129, r54_130, r54_134, r54_137, r54_138, r54_141, r54_142, r54_145, r54_146, r54_149, ↓if_pos, ↓if_neg, c1, Option.bind_some, pushR_s]
    · by_cases h' : 0 ≤ outc g c (aof g c w 3)
      · rw [if_pos ⟨h, h'⟩]
        simp (disch := omega) only [r54_0, r54_1, r54_2, r54_5, r54_6, r54_9, r54_10, r54_13, r54_14, r54_15, r54_18, r54_19, r54_22, r54_23, r54_24, r54_26, r54_27, r54_30, r54_31, r54_32, r54_35, r54_37, r54_40, r54_43, r54_44, r54_47, r54_48, r54_51, r54_52, r54_55, r54_56, r54_57, r54_60, r54_62, r54_65, r54_68, r54_69, r54_72, r54_73, r54_74, r54_77, r54_78, r54_81, r54_82, r54_85, r54_86, r54_89, r54_90, r54_93, r54_94, r54_95, r54_96, r54_97, r54_100, r54_102, r54_103, r54_106, r54_108, r54_109, r54_112, r54_113, r54_114, r54_117, r54_119, r54_122, r54_125, r54_126, r54_129, r54_130, r54_134, r54_137, r54_138, r54_141, r54_142, r54_145, r54_146, r54_149, ↓if_pos, ↓if_neg, e34, c1, c2, Option.bind_some, pushR_s]
      · rw [if_neg (fun z => h' z.2)]
        simp (disch := omega) only [r54_0, r54_1, r54_2, r54_5, r54_6, r54_9, r54_10, r54_13, r54_14, r54_15, r54_18, r54_19, r54_22, r54_23, r54_24, r54_26, r54_27, r54_30, r54_31, r54_32, r54_35, r54_37, r54_40, r54_43, r54_44, r54_47, r54_48, r54_51, r54_52, r54_55, r54_56, r54_57, r54_60, r54_62, r54_65, r54_68, r54_69, r54_72, r54_73, r54_74, r54_77, r54_78, r54_81, r54_82, r54_85, r54_86, r54_89, r54_90, r54_93, r54_94, r54_95, r54_96, r54_97, r54_100, r54_102, r54_103, r54_106, r54_108, r54_109, r54_112, r54_113, r54_114, r54_117, r54_119, r54_122, r54_125, r54_126, r54_129, r54_130, r54_134, r54_137, r54_138, r54_141, r54_142, r54_145, r54_146, r54_149, ↓if_pos, ↓if_neg, e34, c1, c2, Option.bind_some, pushR_s]
  have f4 := fS _ 3 (tak g c w) f3
  refine ⟨mset (mset (mset M2 35 3 (tak g c w)) 35 4 w) 35 5 t, ?_, ?_, fS _ _ _ (fS _ _ _ f4)⟩
  · rw [en54, h1, h2, h3, h4]
    simp (disch := omega) only [r54_0, r54_1, r54_2, r54_5, r54_6, r54_9, r54_10, r54_13, r54_14, r54_15, r54_18, r54_19, r54_22, r54_23, r54_24, r54_26, r54_27, r54_30, r54_31, r54_32, r54_35, r54_37, r54_40, r54_43, r54_44, r54_47, r54_48, r54_51, r54_52, r54_55, r54_56, r54_57, r54_60, r54_62, r54_65, r54_68, r54_69, r54_72, r54_73, r54_74, r54_77, r54_78, r54_81, r54_82, r54_85, r54_86, r54_89, r54_90, r54_93, r54_94, r54_95, r54_96, r54_97, r54_100, r54_102, r54_103, r54_106, r54_108, r54_109, r54_112, r54_113, r54_114, r54_117, r54_119, r54_122, r54_125, r54_126, r54_129, r54_130, r54_133, r54_134, r54_137, r54_138, r54_141, r54_142, r54_145, r54_146, r54_149]
  · obtain ⟨k31, k32, k33⟩ := k3
    funext ch
    unfold LX LSm
    simp [mset_at, k31, k32, k33]
def FrS (I J : MM) : Prop := ∀ a i, a ≠ 24 → a ≠ 35 → ¬ (a = 21 ∧ i = 5) → ¬ (a = 34 ∧ (i = 1 ∨ i = 2)) → J a i = I a i
theorem x_step1 (hA : At 2 I g) (hg : WG g) (hc : 0 ≤ c ∧ c < 131072) (h34 : I 34 1 = c) (hw : 0 ≤ w ∧ w < g.nW) (hD : RDn I r) (hp : (pR r).2.1 = -1) (hL : (pR r).2.2.length ≤ 40) : ∃ J, call (d + 6) 53 [vR 34, vR 2, vR 21, vI w, vI t] I = some (none, J) ∧ FrS I J ∧ J 34 1 = (if mgo r g t w c = -1 then c else mgo r g t w c) ∧ J 34 2 = (if mgo r g t w c = -1 then w else I 34 2) := by
  have hgoal := x_isAtGoal (d := d + 3) hA hg hc hw.1 hw.2
  unfold mgo
  by_cases h0 : wAt c w = goalP g w
  · rw [if_pos h0] at hgoal ⊢
    rw [if_neg (by omega), if_neg (by omega)]
    refine ⟨I, ?_, fun _ _ _ _ _ _ => rfl, h34, rfl⟩
    rw [en53]
    simp (disch := omega) only [r53_0, r53_1, r53_2, r53_5, r53_6, r53_9, r53_12, r53_13, r53_14, r53_15, r53_16, r53_18, r53_21, r53_22, r53_23, r53_26, r53_29, r53_32, r53_35, r53_36, r53_38, r53_39, r53_40, r53_41, r53_43, r53_46, r53_48, r53_50, r53_51, r53_54, r53_55, r53_56, r53_57, r53_60, r53_62, r53_65, r53_67, r53_69, r53_72, r53_73, r53_75, r53_78, r53_81, r53_83, r53_85, r53_88, r53_90, r53_91, r53_94, r53_95, r53_96, r53_99, ↓if_pos, ↓if_neg, h34, hgoal, Option.bind_some, pushR_s]
  · rw [if_neg h0] at hgoal
    rw [if_neg h0]
    obtain ⟨J1, c1, l1, f1⟩ := x_look (d := d) (t := t) hA hg hc h34 hw
    obtain ⟨J2, c2, f2⟩ := x_worked (d := d + 2) (I := J1) hL ((f1 21 3 (by omega)).trans hD.2.1) (SK.cong (fun i _ _ => f1 23 i (by omega)) hD.2.2)
    rw [l1, evS_evU _ hL] at c2
    have hv : rval r g c w t = (evU (LSm g c w t) (pR r).2.2).headD 0 := by unfold rval; rw [if_pos hp]
    rw [← hv] at c2
    have c3 := fun M : MM => x_floorMod (d := d + 4) (I := M) (v := rval r g c w t)
    have hch := ch4_b (v := rval r g c w t)
    have el : l2i (ch4 (rval r g c w t)) = ch4 (rval r g c w t) := by
      have : ch4 (rval r g c w t) = 0 ∨ ch4 (rval r g c w t) = 1 ∨ ch4 (rval r g c w t) = 2 ∨ ch4 (rval r g c w t) = 3 := by omega
      rcases this with z | z | z | z <;> rw [z] <;> decide
    have f12 : ∀ a i, a ≠ 24 → a ≠ 35 → ¬ (a = 21 ∧ i = 5) → J2 a i = I a i := fun a i q1 q2 q3 => (f2 a i q1 q3).trans (f1 a i q2)
    have e34 : J2 34 1 = c := (f12 34 1 (by omega) (by omega) (by omega)).trans h34
    have hA2 : At 2 J2 g := hA.cong (fun a _ _ i => f12 a i (by omega) (by omega) (by omega))
    have c4 := x_actOf (d := d + 1) (k := ch4 (rval r g c w t)) hA2 hg hc e34 hw
    have hab := aof_b (c := c) (k := ch4 (rval r g c w t)) hg hw
    have c5 := x_outcome (d := d + 1) (a := aof g c w (ch4 (rval r g c w t))) hA2 hg hc
    have fS2 : FrS I J2 := fun a i q1 q2 q3 _ => f12 a i q1 q2 q3
    have e342 : J2 34 2 = I 34 2 := f12 34 2 (by omega) (by omega) (by omega)
    generalize rval r g c w t = v at *
    generalize ch4 v = q at *
    have hst : call (d + 6) 53 [vR 34, vR 2, vR 21, vI w, vI t] I = runs (call (d + 5)) 53 48 [vR 34, vR 2, vR 21, vI w, vI t, vI q, vI (aof g c w q), vR 0] [] J2 := by
      rw [en53]
      simp (disch := omega) only [r53_0, r53_1, r53_2, r53_5, r53_6, r53_9, r53_12, r53_13, r53_14, r53_15, r53_16, r53_18, r53_21, r53_22, r53_23, r53_26, r53_29, r53_32, r53_35, r53_36, r53_38, r53_39, r53_40, r53_41, r53_43, r53_46, r53_50, r53_51, r53_54, r53_55, r53_56, r53_57, r53_60, r53_62, r53_65, r53_67, r53_69, r53_72, r53_73, r53_75, r53_78, r53_81, r53_83, r53_85, r53_88, r53_90, r53_91, r53_94, r53_95, r53_96, r53_99, ↓if_pos, ↓if_neg, h34, hgoal, c1, c2, c3, el, c4, Option.bind_some, pushR_s, pushR_n]
    by_cases h1 : aof g c w q = -1
    · rw [if_pos h1, if_neg (by omega), if_neg (by omega)]
      refine ⟨J2, ?_, fS2, e34, e342⟩
      rw [hst]
      simp (disch := omega) only [r53_0, r53_1, r53_2, r53_5, r53_6, r53_9, r53_12, r53_13, r53_14, r53_15, r53_16, r53_18, r53_21, r53_22, r53_23, r53_26, r53_29, r53_32, r53_35, r53_36, r53_38, r53_39, r53_40, r53_41, r53_43, r53_46, r53_48, r53_50, r53_51, r53_54, r53_55, r53_56, r53_57, r53_60, r53_62, r53_65, r53_67, r53_69, r53_72, r53_73, r53_75, r53_78, r53_81, r53_83, r53_85, r53_88, r53_90, r53_91, r53_94, r53_95, r53_96, r53_99, ↓if_pos, ↓if_neg]
    · rw [if_neg h1]
      by_cases h2 : 0 ≤ outc g c (aof g c w q)
      · rw [if_pos h2, if_neg (by omega), if_neg (by omega)]
        refine ⟨mset J2 34 1 (outc g c (aof g c w q)), ?_, fun a i q1 q2 q3 q4 => by rw [mset_at, if_neg (by omega)]; exact f12 a i q1 q2 q3, by rw [mset_at, if_pos ⟨rfl, rfl⟩], by rw [mset_at, if_neg (by omega)]; exact e342⟩
        rw [hst]
        simp (disch := omega) only [r53_0, r53_1, r53_2, r53_5, r53_6, r53_9, r53_12, r53_13, r53_14, r53_15, r53_16, r53_18, r53_21, r53_22, r53_23, r53_26, r53_29, r53_32, r53_35, r53_36, r53_38, r53_39, r53_40, r53_41, r53_43, r53_46, r53_48, r53_50, r53_51, r53_54, r53_55, r53_56, r53_57, r53_60, r53_62, r53_65, r53_67, r53_69, r53_72, r53_73, r53_75, r53_78, r53_81, r53_83, r53_85, r53_88, r53_90, r53_91, r53_94, r53_95, r53_96, r53_99, ↓if_pos, ↓if_neg, e34, c5, Option.bind_some, pushR_s]
      · rw [if_neg h2]
        by_cases h3 : outc g c (aof g c w q) = -3 ∨ q = 1
        · rw [if_pos h3, if_pos rfl, if_pos rfl]
          refine ⟨mset J2 34 2 w, ?_, fun a i q1 q2 q3 q4 => by rw [mset_at, if_neg (by omega)]; exact f12 a i q1 q2 q3, by rw [mset_at, if_neg (by omega)]; exact e34, by rw [mset_at, if_pos ⟨rfl, rfl⟩]⟩
          rw [hst]
          by_cases h4 : outc g c (aof g c w q) = -3
          · simp (disch := omega) only [r53_0, r53_1, r53_2, r53_5, r53_6, r53_9, r53_12, r53_13, r53_14, r53_15, r53_16, r53_18, r53_21, r53_22, r53_23, r53_26, r53_29, r53_32, r53_35, r53_36, r53_38, r53_39, r53_40, r53_41, r53_43, r53_46, r53_48, r53_50, r53_51, r53_54, r53_55, r53_56, r53_57, r53_60, r53_62, r53_65, r53_67, r53_69, r53_72, r53_73, r53_75, r53_78, r53_81, r53_83, r53_85, r53_88, r53_90, r53_91, r53_94, r53_95, r53_96, r53_99, ↓if_pos, ↓if_neg, e34, c5, Option.bind_some, pushR_s]
          · simp (disch := omega) only [r53_0, r53_1, r53_2, r53_5, r53_6, r53_9, r53_12, r53_13, r53_14, r53_15, r53_16, r53_18, r53_21, r53_22, r53_23, r53_26, r53_29, r53_32, r53_35, r53_36, r53_38, r53_39, r53_40, r53_41, r53_43, r53_46, r53_48, r53_50, r53_51, r53_54, r53_55, r53_56, r53_57, r53_60, r53_62, r53_65, r53_67, r53_69, r53_72, r53_73, r53_75, r53_78, r53_81, r53_83, r53_85, r53_88, r53_90, r53_91, r53_94, r53_95, r53_96, r53_99, ↓if_pos, ↓if_neg, e34, c5, Option.bind_some, pushR_s]
        · rw [if_neg h3, if_neg (by omega), if_neg (by omega)]
          refine ⟨J2, ?_, fS2, e34, e342⟩
          rw [hst]
          simp (disch := omega) only [r53_0, r53_1, r53_2, r53_5, r53_6, r53_9, r53_12, r53_13, r53_14, r53_15, r53_16, r53_18, r53_21, r53_22, r53_23, r53_26, r53_29, r53_32, r53_35, r53_36, r53_38, r53_39, r53_40, r53_41, r53_43, r53_46, r53_48, r53_50, r53_51, r53_54, r53_55, r53_56, r53_57, r53_60, r53_62, r53_65, r53_67, r53_69, r53_72, r53_73, r53_75, r53_78, r53_81, r53_83, r53_85, r53_88, r53_90, r53_91, r53_94, r53_95, r53_96, r53_99, ↓if_pos, ↓if_neg, e34, c5, Option.bind_some, pushR_s]
end
