/-! In mist: what the model sees. -/
def ctR (g : G) (c p : Int) : Nat → Int → Int
  | 0, _ => 0
  | f + 1, o => (if o < g.nW ∧ wAt c o = p then 1 else 0) + ctR g c p f (o + 1)
section
variable {d : Nat} {I J K : MM} {g : G} {c w k x y t v b p n m : Int}
theorem Fr7.to8' (f : Fr7 I J) : Fr8 I J := fun a i q1 q2 q3 q4 _ => f a i q1 q2 q3 q4
theorem memA_f8 : Fr8 I (memA I k w x y) := fun a i _ _ _ _ q => memA_o q
theorem Fr8.RG (h : Fr8 I J) (hR : RG I g) : RG J g := hR.cong (h.oth (by omega))
theorem m_mtStep (hR : RG I g) (hM : MS I g c) (hg : WG g) (hV : VC g c) (hw : 0 ≤ w ∧ w < g.nW) (hb : 0 ≤ b ∧ b < g.nB) (hm : m = 0 ∨ m = 1) (v5 v6 : AV) : ∃ K u5 u6, runs (call (d + 7)) 249 5 [vR 70, vI w, vI (g.gl w), vI m, vI b, v5, v6] [] I = runs (call (d + 7)) 249 5 [vR 70, vI w, vI (g.gl w), vI (if m = 1 ∨ mtk g c w b = true then 1 else 0), vI (b + 1), u5, u6] [] K ∧ MS K g c ∧ Fr8 I K := by
  have hn := hg.nW3
  have hb2 := hg.nB2
  have hgl := (hg.2.2.2.2.1 w hw.1 hw.2).2
  have hsp := hg.sp14 hb.1 hb.2
  have el := hM.2 b hb.1 hb.2
  have ew := hM.1 w hw.1 hw.2
  have hbb := bAt_b c b
  have hlb : 0 ≤ lie (bAt c b) ∧ lie (bAt c b) < 16 := by unfold lie; split <;> omega
  have c1 := m_boards (d := d + 6) hR
  have c2 := m_longOfBoard (d := d + 5) hR hg hb.1 hb.2
  have c3 := m_isLaid (d := d + 6) hM hg hb
  have hmb : mtk g c w b = true ↔ (bhd g c w b = true ∧ 0 ≤ outk g c 2 w b 0) := by unfold mtk; rw [Bool.and_eq_true, decide_eq_true_eq]
  have hme : (if m = 1 ∨ mtk g c w b = true then 1 else 0) = if m = 1 ∨ (bhd g c w b = true ∧ 0 ≤ outk g c 2 w b 0) then (1 : Int) else 0 := by simp only [hmb]
  rw [hme]
  by_cases hbh : bhd g c w b = true
  · obtain ⟨h1, h2⟩ := bhd_d.mp hbh
    rw [if_pos h1] at c3
    rw [lie_n h1] at el
    obtain ⟨J, c4, f4, s4, b4⟩ := m_tryAct2 (d := d) (I := memA I 2 w b 0) (memA_f8.RG hR) (hM.cong (fun i => memA_o (by omega)) (fun i => memA_o (by omega))) hg hV memA_AF (by omega) hw.1 hb.1 (Int.le_refl 0)
    have fJ : Fr8 I J := memA_f8.trans f4.to8'
    by_cases h3 : 0 ≤ outk g c 2 w b 0
    · rw [if_pos (Or.inr ⟨hbh, h3⟩)]
      have hr : rso (outk g c 2 w b 0) = 0 := by unfold rso; rw [if_neg (by omega)]
      rw [hr] at c4
      refine ⟨memB J, vI (wAt c w), vI 0, ?_, memB_MS hg (b4 h3), fJ.trans (memB_fr J).to8'⟩
      rw [r249_5]
      clear hbh hmb hme s4 b4
      rcases hgl with z | z
      · rw [z, if_neg (by omega)] at h2
        rw [z]
        rcases hm with rfl | rfl <;> simp (disch := omega) only [r249_0, r249_1, r249_2, r249_3, r249_7, r249_8, r249_11, r249_14, r249_15, r249_16, r249_19, r249_20, r249_23, r249_25, r249_26, r249_27, r249_29, r249_32, r249_33, r249_36, r249_37, r249_40, r249_42, r249_43, r249_44, r249_45, r249_47, r249_48, r249_50, r249_53, r249_56, r249_58, r249_59, r249_62, r249_63, r249_64, r249_67, r249_68, r249_69, r249_70, r249_72, r249_73, r249_76, r249_77, r249_80, r249_82, r249_84, r249_87, r249_88, r249_91, r249_92, r249_95, r249_97, r249_100, r249_101, r249_104, r249_105, r249_106, r249_109, r249_112, r249_113, ↓if_pos, ↓if_neg, c1, c2, c3, el, ew, isub_eq, h2, m_setAct, c4, m_goBack, iadd_eq, Option.bind_some, pushR_s, pushR_n]
      · rw [z, if_pos rfl] at h2
        rw [z]
        rcases hm with rfl | rfl <;> simp (disch := omega) only [r249_0, r249_1, r249_2, r249_3, r249_7, r249_8, r249_11, r249_14, r249_15, r249_16, r249_19, r249_20, r249_23, r249_25, r249_26, r249_27, r249_29, r249_32, r249_33, r249_36, r249_37, r249_40, r249_42, r249_43, r249_44, r249_45, r249_47, r249_48, r249_50, r249_53, r249_56, r249_58, r249_59, r249_62, r249_63, r249_64, r249_67, r249_68, r249_69, r249_70, r249_72, r249_73, r249_76, r249_77, r249_80, r249_82, r249_84, r249_87, r249_88, r249_91, r249_92, r249_95, r249_97, r249_100, r249_101, r249_104, r249_105, r249_106, r249_109, r249_112, r249_113, ↓if_pos, ↓if_neg, c1, c2, c3, el, ew, iadd_eq, h2, m_setAct, c4, m_goBack, Option.bind_some, pushR_s, pushR_n]
    · have hr : rso (outk g c 2 w b 0) = - outk g c 2 w b 0 := by unfold rso; rw [if_pos (by omega)]
      have hs : sto c (outk g c 2 w b 0) = c := by unfold sto; rw [if_pos (by omega)]
      rw [hr] at c4
      rw [hs] at s4
      refine ⟨J, vI (wAt c w), vI (- outk g c 2 w b 0), ?_, s4, fJ⟩
      rw [r249_5]
      clear hmb hme s4 b4
      have hno : ¬ (bhd g c w b = true ∧ 0 ≤ outk g c 2 w b 0) := fun z => h3 z.2
      generalize outk g c 2 w b 0 = o at *
      have e1 : (if m = 1 ∨ bhd g c w b = true ∧ 0 ≤ o then (1 : Int) else 0) = m := by
        rcases hm with rfl | rfl
        · rw [if_neg (fun z => z.elim (fun y => by omega) hno)]
        · rw [if_pos (Or.inl rfl)]
      rw [e1]
      clear e1 hno hbh
      rcases hgl with z | z
      · rw [z, if_neg (by omega)] at h2
        rw [z]
        rcases hm with rfl | rfl <;> simp (disch := omega) only [r249_0, r249_1, r249_2, r249_3, r249_7, r249_8, r249_11, r249_14, r249_15, r249_16, r249_19, r249_20, r249_23, r249_25, r249_26, r249_27, r249_29, r249_32, r249_33, r249_36, r249_37, r249_40, r249_42, r249_43, r249_44, r249_45, r249_47, r249_48, r249_50, r249_53, r249_56, r249_58, r249_59, r249_62, r249_63, r249_64, r249_67, r249_68, r249_69, r249_70, r249_72, r249_73, r249_76, r249_77, r249_80, r249_82, r249_84, r249_87, r249_88, r249_91, r249_92, r249_95, r249_97, r249_100, r249_101, r249_104, r249_105, r249_106, r249_109, r249_112, r249_113, ↓if_pos, ↓if_neg, c1, c2, c3, el, ew, isub_eq, h2, m_setAct, c4, iadd_eq, Option.bind_some, pushR_s, pushR_n]
      · rw [z, if_pos rfl] at h2
        rw [z]
        rcases hm with rfl | rfl <;> simp (disch := omega) only [r249_0, r249_1, r249_2, r249_3, r249_7, r249_8, r249_11, r249_14, r249_15, r249_16, r249_19, r249_20, r249_23, r249_25, r249_26, r249_27, r249_29, r249_32, r249_33, r249_36, r249_37, r249_40, r249_42, r249_43, r249_44, r249_45, r249_47, r249_48, r249_50, r249_53, r249_56, r249_58, r249_59, r249_62, r249_63, r249_64, r249_67, r249_68, r249_69, r249_70, r249_72, r249_73, r249_76, r249_77, r249_80, r249_82, r249_84, r249_87, r249_88, r249_91, r249_92, r249_95, r249_97, r249_100, r249_101, r249_104, r249_105, r249_106, r249_109, r249_112, r249_113, ↓if_pos, ↓if_neg, c1, c2, c3, el, ew, iadd_eq, h2, m_setAct, c4, Option.bind_some, pushR_s, pushR_n]
  · have hno : ¬ (bhd g c w b = true ∧ 0 ≤ outk g c 2 w b 0) := fun z => hbh z.1
    have h' : ¬ (bAt c b < 8 ∧ (if g.gl w = 1 then bAt c b + g.sp b else bAt c b - 1) = wAt c w) := fun z => hbh (bhd_d.mpr z)
    have e1 : (if m = 1 ∨ (bhd g c w b = true ∧ 0 ≤ outk g c 2 w b 0) then (1 : Int) else 0) = m := by
      rcases hm with rfl | rfl
      · rw [if_neg (fun z => z.elim (fun y => by omega) hno)]
      · rw [if_pos (Or.inl rfl)]
    rw [e1]
    clear hme hmb hno e1 hbh
    refine ⟨I, vI (if g.gl w = 1 then lie (bAt c b) + g.sp b else lie (bAt c b) - 1), v6, ?_, hM, fun _ _ _ _ _ _ _ => rfl⟩
    rw [r249_5]
    by_cases h1 : bAt c b < 8
    · rw [if_pos h1] at c3
      rw [lie_n h1] at el ⊢
      rcases hgl with z | z
      · rw [z, if_neg (by omega)] at h'
        rw [z, if_neg (by omega)]
        simp (disch := omega) only [r249_0, r249_1, r249_2, r249_3, r249_7, r249_8, r249_11, r249_14, r249_15, r249_16, r249_19, r249_20, r249_23, r249_25, r249_26, r249_27, r249_29, r249_32, r249_33, r249_36, r249_37, r249_40, r249_42, r249_43, r249_44, r249_45, r249_47, r249_48, r249_50, r249_53, r249_56, r249_58, r249_59, r249_62, r249_63, r249_64, r249_67, r249_68, r249_69, r249_70, r249_72, r249_73, r249_76, r249_77, r249_80, r249_82, r249_84, r249_87, r249_88, r249_91, r249_92, r249_95, r249_97, r249_100, r249_101, r249_104, r249_105, r249_106, r249_109, r249_112, r249_113, ↓if_pos, ↓if_neg, c1, c2, c3, el, ew, isub_eq, iadd_eq, Option.bind_some, pushR_s, pushR_n]
      · rw [z, if_pos rfl] at h'
        rw [z, if_pos rfl]
        simp (disch := omega) only [r249_0, r249_1, r249_2, r249_3, r249_7, r249_8, r249_11, r249_14, r249_15, r249_16, r249_19, r249_20, r249_23, r249_25, r249_26, r249_27, r249_29, r249_32, r249_33, r249_36, r249_37, r249_40, r249_42, r249_43, r249_44, r249_45, r249_47, r249_48, r249_50, r249_53, r249_56, r249_58, r249_59, r249_62, r249_63, r249_64, r249_67, r249_68, r249_69, r249_70, r249_72, r249_73, r249_76, r249_77, r249_80, r249_82, r249_84, r249_87, r249_88, r249_91, r249_92, r249_95, r249_97, r249_100, r249_101, r249_104, r249_105, r249_106, r249_109, r249_112, r249_113, ↓if_pos, ↓if_neg, c1, c2, c3, el, ew, isub_eq, iadd_eq, Option.bind_some, pushR_s, pushR_n]
    · rw [if_neg h1] at c3
      rcases hgl with z | z
      · rw [z, if_neg (by omega)]
        simp (disch := omega) only [r249_0, r249_1, r249_2, r249_3, r249_7, r249_8, r249_11, r249_14, r249_15, r249_16, r249_19, r249_20, r249_23, r249_25, r249_26, r249_27, r249_29, r249_32, r249_33, r249_36, r249_37, r249_40, r249_42, r249_43, r249_44, r249_45, r249_47, r249_48, r249_50, r249_53, r249_56, r249_58, r249_59, r249_62, r249_63, r249_64, r249_67, r249_68, r249_69, r249_70, r249_72, r249_73, r249_76, r249_77, r249_80, r249_82, r249_84, r249_87, r249_88, r249_91, r249_92, r249_95, r249_97, r249_100, r249_101, r249_104, r249_105, r249_106, r249_109, r249_112, r249_113, ↓if_pos, ↓if_neg, c1, c2, c3, el, ew, isub_eq, iadd_eq, Option.bind_some, pushR_s, pushR_n]
      · rw [z, if_pos rfl]
        simp (disch := omega) only [r249_0, r249_1, r249_2, r249_3, r249_7, r249_8, r249_11, r249_14, r249_15, r249_16, r249_19, r249_20, r249_23, r249_25, r249_26, r249_27, r249_29, r249_32, r249_33, r249_36, r249_37, r249_40, r249_42, r249_43, r249_44, r249_45, r249_47, r249_48, r249_50, r249_53, r249_56, r249_58, r249_59, r249_62, r249_63, r249_64, r249_67, r249_68, r249_69, r249_70, r249_72, r249_73, r249_76, r249_77, r249_80, r249_82, r249_84, r249_87, r249_88, r249_91, r249_92, r249_95, r249_97, r249_100, r249_101, r249_104, r249_105, r249_106, r249_109, r249_112, r249_113, ↓if_pos, ↓if_neg, c1, c2, c3, el, ew, isub_eq, iadd_eq, Option.bind_some, pushR_s, pushR_n]
theorem m_mtEnd (hR : RG I g) (hb : b = g.nB) (hm : m = 0 ∨ m = 1) (v5 v6 : AV) : runs (call (d + 7)) 249 5 [vR 70, vI w, vI (g.gl w), vI m, vI b, v5, v6] [] I = some (some (vI m), I) := by
  have c1 := m_boards (d := d + 6) hR
  rcases hm with rfl | rfl <;> simp (disch := omega) only [r249_0, r249_1, r249_2, r249_3, r249_5, r249_7, r249_8, r249_11, r249_14, r249_15, r249_16, r249_19, r249_20, r249_23, r249_25, r249_26, r249_27, r249_29, r249_32, r249_33, r249_36, r249_37, r249_40, r249_42, r249_43, r249_44, r249_45, r249_47, r249_48, r249_50, r249_53, r249_56, r249_58, r249_59, r249_62, r249_63, r249_64, r249_67, r249_68, r249_69, r249_70, r249_72, r249_73, r249_76, r249_77, r249_80, r249_82, r249_84, r249_87, r249_88, r249_91, r249_92, r249_95, r249_97, r249_100, r249_101, r249_104, r249_105, r249_106, r249_109, r249_112, r249_113, ↓if_pos, ↓if_neg, c1, Option.bind_some, pushR_s]
theorem m_mayTakeOne (hR : RG I g) (hM : MS I g c) (hg : WG g) (hV : VC g c) (hw : 0 ≤ w ∧ w < g.nW) : ∃ K, call (d + 8) 249 [vR 70, vI w, vI (g.gl w)] I = some (some (vI (tak g c w)), K) ∧ MS K g c ∧ Fr8 I K := by
  have hb2 := hg.nB2
  rw [tak_eq hg hV hw, en249]
  have h0 : runs (call (d + 7)) 249 0 [vR 70, vI w, vI (g.gl w), vR 0, vR 0, vR 0, vR 0] [] I = runs (call (d + 7)) 249 5 [vR 70, vI w, vI (g.gl w), vI 0, vI 0, vR 0, vR 0] [] I := by
    simp (disch := omega) only [r249_0, r249_1, r249_2, r249_3, r249_7, r249_8, r249_11, r249_14, r249_15, r249_16, r249_19, r249_20, r249_23, r249_25, r249_26, r249_27, r249_29, r249_32, r249_33, r249_36, r249_37, r249_40, r249_42, r249_43, r249_44, r249_45, r249_47, r249_48, r249_50, r249_53, r249_56, r249_58, r249_59, r249_62, r249_63, r249_64, r249_67, r249_68, r249_69, r249_70, r249_72, r249_73, r249_76, r249_77, r249_80, r249_82, r249_84, r249_87, r249_88, r249_91, r249_92, r249_95, r249_97, r249_100, r249_101, r249_104, r249_105, r249_106, r249_109, r249_112, r249_113]
  rw [h0]
  by_cases n0 : g.nB = 0
  · rw [if_neg (by omega)]
    exact ⟨I, m_mtEnd hR n0.symm (Or.inl rfl) _ _, hM, fun _ _ _ _ _ _ _ => rfl⟩
  · obtain ⟨K1, u5, u6, c1, s1, f1⟩ := m_mtStep (d := d) hR hM hg hV hw (b := 0) (by omega) (m := 0) (Or.inl rfl) (vR 0) (vR 0)
    have b1 : (if (0 : Int) = 1 ∨ mtk g c w 0 = true then (1 : Int) else 0) = 0 ∨ (if (0 : Int) = 1 ∨ mtk g c w 0 = true then (1 : Int) else 0) = 1 := by split <;> omega
    rw [c1]
    by_cases n1 : g.nB = 1
    · refine ⟨K1, ?_, s1, f1⟩
      rw [m_mtEnd (f1.RG hR) (by omega) b1]
      congr 4
      by_cases h : mtk g c w 0 = true
      · rw [if_pos (Or.inr h), if_pos (Or.inl ⟨by omega, h⟩)]
      · rw [if_neg (fun z => z.elim (fun y => by omega) h), if_neg (fun z => z.elim (fun y => h y.2) (fun y => by omega))]
    · obtain ⟨K2, w5, w6, c2, s2, f2⟩ := m_mtStep (d := d) (f1.RG hR) s1 hg hV hw (b := 0 + 1) (by omega) b1 u5 u6
      refine ⟨K2, ?_, s2, f1.trans f2⟩
      have b2 : (if (if (0 : Int) = 1 ∨ mtk g c w 0 = true then (1 : Int) else 0) = 1 ∨ mtk g c w (0 + 1) = true then (1 : Int) else 0) = 0 ∨ (if (if (0 : Int) = 1 ∨ mtk g c w 0 = true then (1 : Int) else 0) = 1 ∨ mtk g c w (0 + 1) = true then (1 : Int) else 0) = 1 := by split <;> omega
      rw [c2, m_mtEnd ((f1.trans f2).RG hR) (by omega) b2]
      congr 4
      rw [show (0 : Int) + 1 = 1 by omega]
      by_cases h : mtk g c w 0 = true
      · rw [if_pos (Or.inl (by rw [if_pos (Or.inr h)])), if_pos (Or.inl ⟨by omega, h⟩)]
      · have e0 : (if (0 : Int) = 1 ∨ mtk g c w 0 = true then (1 : Int) else 0) = 0 := if_neg (fun z => z.elim (fun y => by omega) h)
        rw [e0]
        by_cases h1 : mtk g c w 1 = true
        · rw [if_pos (Or.inr h1), if_pos (Or.inr ⟨by omega, h1⟩)]
        · rw [if_neg (fun z => z.elim (fun y => by omega) h1), if_neg (fun z => z.elim (fun y => h y.2) (fun y => h1 y.2))]
end
