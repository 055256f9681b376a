/-! The reader of the model: a whole text. -/
section
variable {d : Nat} {I J K : MM} {t : Int → Int} {k lo hi v l p b w e : Int} {g : G} {c : Int} {q : SG}
theorem TKm.tok (h : TKm I t k) (hv : v = 0 ∨ v = 3) : I 70 23 = v ↔ tkK t (t (-1)) (sk t k) = v := by
  rw [h.2.2.1]
  split
  · omega
  · exact Iff.rfl
theorem m_readL (hn : 0 ≤ t (-1) ∧ t (-1) ≤ 200) : ∀ (f : Nat) (m : Int) (g : G) (c k : Int) (J : MM), 0 ≤ m → m + 1 + f = 201 → TM J t → 0 ≤ k ∧ k ≤ t (-1) → TKm J t k → tkK t (t (-1)) (sk t k) = 3 → m + 1 ≤ tE t k → MN J g c → DW (g, c) → ∃ J', FrN J J' ∧ ((rdL t f (m + 1) g c (tE t k)).2.1 < 0 → runs (call (d + 7)) 228 38 [vR 70, vI 1, vI m] [] J = some (some (vI (isub (-10) (rdL t f (m + 1) g c (tE t k)).2.2)), J')) ∧ (¬ (rdL t f (m + 1) g c (tE t k)).2.1 < 0 → runs (call (d + 7)) 228 38 [vR 70, vI 1, vI m] [] J = runs (call (d + 7)) 228 107 [vR 70, vI 1, vI (rdL t f (m + 1) g c (tE t k)).2.1] [] J' ∧ MN J' (rdL t f (m + 1) g c (tE t k)).1.1 (rdL t f (m + 1) g c (tE t k)).1.2) := by
  intro f
  induction f with
  | zero =>
    intro m g c k J m0 hf hT hk hx h3 hm hN hD
    have := tE_b (t := t) hk
    omega
  | succ f ih =>
    intro m g c k J m0 hf hT hk hx h3 hm hN hD
    obtain ⟨J1, c1, x1, f1⟩ := m_goOn (d := d + 3) hT hn hk hx
    have fm1 := FrM.of f1
    have hk1 := tE_b (t := t) hk
    have hs1 := sk_b hk1
    have hJ3 : J 70 23 = 3 := (hx.tok (Or.inr rfl)).mpr h3
    have m1 := fm1.mn hN
    rw [rdL]
    by_cases hend : tkK t (t (-1)) (sk t (tE t k)) = 0
    · have hJ10 : J1 70 23 = 0 := (x1.tok (Or.inl rfl)).mpr hend
      rw [if_pos ⟨by omega, hend⟩]
      refine ⟨J1, fm1.N, fun z => ?_, fun _ => ⟨?_, m1⟩⟩
      · have : m + 1 < 0 := z
        omega
      · clear hx x1 hN m1 hD ih
        simp (disch := omega) only [r228_0, r228_1, r228_2, r228_5, r228_6, r228_7, r228_10, r228_11, r228_12, r228_15, r228_16, r228_19, r228_22, r228_23, r228_26, r228_27, r228_30, r228_31, r228_34, r228_35, r228_36, r228_37, r228_38, r228_39, r228_42, r228_43, r228_46, r228_47, r228_50, r228_53, r228_54, r228_57, r228_58, r228_61, r228_64, r228_65, r228_68, r228_71, r228_72, r228_75, r228_76, r228_79, r228_80, r228_83, r228_84, r228_85, r228_88, r228_89, r228_92, r228_93, r228_96, r228_99, r228_101, r228_102, r228_105, r228_106, r228_108, r228_111, r228_114, r228_115, r228_118, r228_119, r228_122, hJ3, hJ10, c1, iadd_eq, ↓if_pos, ↓if_neg, Option.bind_some, pushR_s, pushR_n]
    · have hJ10 : ¬ J1 70 23 = 0 := fun z => hend ((x1.tok (Or.inl rfl)).mp z)
      rw [if_neg (fun z => hend z.2), show decide (m + 1 = 0) = false from decide_eq_false (by omega)]
      obtain ⟨b, J2, c2, hb, r2, f2⟩ := m_readItem (d := d) (fm1.T hT) hn hk1 x1 m1 hD.1 hD.2
      have hI := readI_ok (first := false) (t := t) hD hk1
      have hge := readI_ge (first := false) (t := t) (g := g) (c := c) hk1
      generalize readI t g c false (tE t k) = r at *
      have fr2 : FrN J J2 := fm1.N.trans f2
      have hfault : b = 0 → ∀ s, J2 70 21 = s → runs (call (d + 7)) 228 38 [vR 70, vI 1, vI m] [] J = some (some (vI (isub (-10) s)), J2) := fun z s hs => by
        clear hx x1 hN m1 hD ih r2 hI
        subst z
        simp (disch := omega) only [r228_0, r228_1, r228_2, r228_5, r228_6, r228_7, r228_10, r228_11, r228_12, r228_15, r228_16, r228_19, r228_22, r228_23, r228_26, r228_27, r228_30, r228_31, r228_34, r228_35, r228_36, r228_37, r228_38, r228_39, r228_42, r228_43, r228_46, r228_47, r228_50, r228_53, r228_54, r228_57, r228_58, r228_61, r228_64, r228_65, r228_68, r228_71, r228_72, r228_75, r228_76, r228_79, r228_80, r228_83, r228_84, r228_85, r228_88, r228_89, r228_92, r228_93, r228_96, r228_99, r228_101, r228_102, r228_105, r228_106, r228_108, r228_111, r228_114, r228_115, r228_118, r228_119, r228_122, hJ3, hJ10, c1, c2, hs, iadd_eq, ↓if_pos, ↓if_neg, Option.bind_some, pushR_s, pushR_n]
      by_cases h2 : r.2.2 = -1
      · obtain ⟨hb1, x2, m2⟩ := r2.1 h2
        by_cases h3' : tkK t (t (-1)) (sk t r.2.1) = 3
        · have hJ23 : J2 70 23 = 3 := (x2.tok (Or.inr rfl)).mpr h3'
          have hs2 := sk_b hI.2.1
          have he2 := tkE_b (t := t) (n := t (-1)) (s := sk t r.2.1) (by omega)
          have hlt : sk t r.2.1 < t (-1) := by
            rcases Int.lt_or_le (sk t r.2.1) (t (-1)) with z | z
            · exact z
            · unfold tkK at h3'; rw [if_pos z] at h3'; omega
          have hgt : r.2.1 < tE t r.2.1 := by unfold tE; omega
          have eS : sS t r.2 = (tE t r.2.1, -1) := by unfold sS tE; rw [if_pos h2, if_pos h3']
          rw [eS, if_pos rfl]
          obtain ⟨J3, f3, a3, b3⟩ := ih (m + 1) r.1.1 r.1.2 r.2.1 J2 (by omega) (by omega) (fr2.T hT) hI.2.1 x2 h3' (by omega) m2 hI.1
          have hstep : runs (call (d + 7)) 228 38 [vR 70, vI 1, vI m] [] J = runs (call (d + 7)) 228 38 [vR 70, vI 1, vI (m + 1)] [] J2 := by
            clear hx x1 hN m1 hD ih r2 hI a3 b3 x2 m2
            subst hb1
            rw [r228_38]
            simp (disch := omega) only [r228_0, r228_1, r228_2, r228_5, r228_6, r228_7, r228_10, r228_11, r228_12, r228_15, r228_16, r228_19, r228_22, r228_23, r228_26, r228_27, r228_30, r228_31, r228_34, r228_35, r228_36, r228_37, r228_39, r228_42, r228_43, r228_46, r228_47, r228_50, r228_53, r228_54, r228_57, r228_58, r228_61, r228_64, r228_65, r228_68, r228_71, r228_72, r228_75, r228_76, r228_79, r228_80, r228_83, r228_84, r228_85, r228_88, r228_89, r228_92, r228_93, r228_96, r228_99, r228_101, r228_102, r228_105, r228_106, r228_108, r228_111, r228_114, r228_115, r228_118, r228_119, r228_122, hJ3, hJ10, hJ23, c1, c2, iadd_eq, ↓if_pos, ↓if_neg, Option.bind_some, pushR_s, pushR_n]
          rw [hstep]
          exact ⟨J3, fr2.trans f3, a3, b3⟩
        · have hJ23 : ¬ J2 70 23 = 3 := fun z => h3' ((x2.tok (Or.inr rfl)).mp z)
          have hs2 := sk_b hI.2.1
          have eS : sS t r.2 = (tE t r.2.1, sk t r.2.1) := by unfold sS tE; rw [if_pos h2, if_neg h3']
          rw [eS, if_neg (by show ¬ sk t r.2.1 = -1; omega)]
          refine ⟨J2, fr2, fun _ => ?_, fun z => absurd (show (-1 : Int) < 0 by omega) z⟩
          have hs := x2.at
          clear hx x1 hN m1 hD ih r2 hI x2 m2 hfault
          subst hb1
          simp (disch := omega) only [r228_0, r228_1, r228_2, r228_5, r228_6, r228_7, r228_10, r228_11, r228_12, r228_15, r228_16, r228_19, r228_22, r228_23, r228_26, r228_27, r228_30, r228_31, r228_34, r228_35, r228_36, r228_37, r228_38, r228_39, r228_42, r228_43, r228_46, r228_47, r228_50, r228_53, r228_54, r228_57, r228_58, r228_61, r228_64, r228_65, r228_68, r228_71, r228_72, r228_75, r228_76, r228_79, r228_80, r228_83, r228_84, r228_85, r228_88, r228_89, r228_92, r228_93, r228_96, r228_99, r228_101, r228_102, r228_105, r228_106, r228_108, r228_111, r228_114, r228_115, r228_118, r228_119, r228_122, hJ3, hJ10, hJ23, hs, c1, c2, iadd_eq, ↓if_pos, ↓if_neg, Option.bind_some, pushR_s, pushR_n]
      · obtain ⟨hb1, e1⟩ := r2.2 h2
        have eS : sS t r.2 = r.2 := by unfold sS; rw [if_neg h2]
        rw [eS, if_neg h2]
        exact ⟨J2, fr2, fun _ => hfault hb1 _ e1, fun z => absurd (show (-1 : Int) < 0 by omega) z⟩
theorem m_readM (hT : TM I t) (hn : 0 ≤ t (-1) ∧ t (-1) ≤ 200) (g0 : G) : ∃ J', FrN I J' ∧ ((rdL t 201 0 (rstG g0 7) 0 0).2.1 < 0 → call (d + 8) 228 [vR 70] I = some (some (vI (isub (-10) (rdL t 201 0 (rstG g0 7) 0 0).2.2)), J')) ∧ (¬ (rdL t 201 0 (rstG g0 7) 0 0).2.1 < 0 → call (d + 8) 228 [vR 70] I = runs (call (d + 7)) 228 107 [vR 70, vI 1, vI (rdL t 201 0 (rstG g0 7) 0 0).2.1] [] J' ∧ MN J' (rdL t 201 0 (rstG g0 7) 0 0).1.1 (rdL t 201 0 (rstG g0 7) 0 0).1.2) := by
  have f0 : FrN I (mset (mset I 70 26 0) 70 27 0) := (FrN.set _ (Or.inr (by omega))).trans (FrN.set _ (Or.inr (by omega)))
  obtain ⟨J1, c1, x1, f1⟩ := m_look (d := d + 4) (k := 0) (f0.T hT) hn (by omega)
  have fm1 := FrM.of f1
  have T1 : TM J1 t := fm1.T (f0.T hT)
  obtain ⟨b, J2, c2, r2, f2⟩ := m_readLast (d := d + 1) (g := rstG g0 7) (c := 0) T1 hn (by omega) x1 ((f1 _ _ (by omega)).trans (by simp [mset_at])) ((f1 _ _ (by omega)).trans (by simp [mset_at]))
  have hD : DW (rstG g0 7, 0) := ⟨WG_rst (by omega), by simp⟩
  have hI := readI_ok (first := true) (t := t) (k := 0) hD (by omega)
  have hge := readI_ge (first := true) (t := t) (g := rstG g0 7) (c := 0) (k := 0) (by omega)
  have hb01 : b = 0 ∨ b = 1 := by
    by_cases z : (readI t (rstG g0 7) 0 true 0).2.2 = -1
    · exact Or.inr (r2.1 z).1
    · exact Or.inl (r2.2 z).1
  rw [rdL, if_neg (by omega), show decide ((0 : Int) = 0) = true from rfl]
  generalize readI t (rstG g0 7) 0 true 0 = r at *
  have fr2 : FrN I J2 := (f0.trans fm1.N).trans f2
  by_cases h2 : r.2.2 = -1
  · obtain ⟨hb1, x2, m2⟩ := r2.1 h2
    by_cases h3' : tkK t (t (-1)) (sk t r.2.1) = 3
    · have hJ23 : J2 70 23 = 3 := (x2.tok (Or.inr rfl)).mpr h3'
      have hs2 := sk_b hI.2.1
      have he2 := tkE_b (t := t) (n := t (-1)) (s := sk t r.2.1) (by omega)
      have hlt : sk t r.2.1 < t (-1) := by
        rcases Int.lt_or_le (sk t r.2.1) (t (-1)) with z | z
        · exact z
        · unfold tkK at h3'; rw [if_pos z] at h3'; omega
      have hgt : r.2.1 < tE t r.2.1 := by unfold tE; omega
      have eS : sS t r.2 = (tE t r.2.1, -1) := by unfold sS tE; rw [if_pos h2, if_pos h3']
      rw [eS, if_pos rfl]
      obtain ⟨J3, f3, a3, b3⟩ := m_readL (d := d) hn 200 0 r.1.1 r.1.2 r.2.1 J2 (by omega) (by omega) (fr2.T hT) hI.2.1 x2 h3' (by omega) m2 hI.1
      have hstep : call (d + 8) 228 [vR 70] I = runs (call (d + 7)) 228 38 [vR 70, vI 1, vI 0] [] J2 := by
        rw [en228]
        clear x1 r2 hI a3 b3 x2 m2 hD
        subst hb1
        simp (disch := omega) only [r228_0, r228_1, r228_2, r228_5, r228_6, r228_7, r228_10, r228_11, r228_12, r228_15, r228_16, r228_19, r228_22, r228_23, r228_26, r228_27, r228_30, r228_31, r228_34, r228_35, r228_36, r228_37, r228_39, r228_42, r228_43, r228_46, r228_47, r228_50, r228_53, r228_54, r228_57, r228_58, r228_61, r228_64, r228_65, r228_68, r228_71, r228_72, r228_75, r228_76, r228_79, r228_80, r228_83, r228_84, r228_85, r228_88, r228_89, r228_92, r228_93, r228_96, r228_99, r228_101, r228_102, r228_105, r228_106, r228_107, r228_108, r228_111, r228_114, r228_115, r228_118, r228_119, r228_122, hJ23, c1, c2, ↓if_pos, ↓if_neg, Option.bind_some, pushR_s, pushR_n]
      rw [hstep]
      exact ⟨J3, fr2.trans f3, a3, b3⟩
    · have hJ23 : ¬ J2 70 23 = 3 := fun z => h3' ((x2.tok (Or.inr rfl)).mp z)
      have hs2 := sk_b hI.2.1
      have eS : sS t r.2 = (tE t r.2.1, sk t r.2.1) := by unfold sS tE; rw [if_pos h2, if_neg h3']
      rw [eS, if_neg (by show ¬ sk t r.2.1 = -1; omega)]
      refine ⟨J2, fr2, fun _ => ?_, fun z => absurd (show (-1 : Int) < 0 by omega) z⟩
      have hs := x2.at
      rw [en228]
      clear x1 r2 hI x2 m2 hD
      subst hb1
      simp (disch := omega) only [r228_0, r228_1, r228_2, r228_5, r228_6, r228_7, r228_10, r228_11, r228_12, r228_15, r228_16, r228_19, r228_22, r228_23, r228_26, r228_27, r228_30, r228_31, r228_34, r228_35, r228_36, r228_37, r228_38, r228_39, r228_42, r228_43, r228_46, r228_47, r228_50, r228_53, r228_54, r228_57, r228_58, r228_61, r228_64, r228_65, r228_68, r228_71, r228_72, r228_75, r228_76, r228_79, r228_80, r228_83, r228_84, r228_85, r228_88, r228_89, r228_92, r228_93, r228_96, r228_99, r228_101, r228_102, r228_105, r228_106, r228_108, r228_111, r228_114, r228_115, r228_118, r228_119, r228_122, hJ23, hs, c1, c2, ↓if_pos, ↓if_neg, Option.bind_some, pushR_s, pushR_n]
  · obtain ⟨hb1, e1⟩ := r2.2 h2
    have eS : sS t r.2 = r.2 := by unfold sS; rw [if_neg h2]
    rw [eS, if_neg h2]
    refine ⟨J2, fr2, fun _ => ?_, fun z => absurd (show (-1 : Int) < 0 by omega) z⟩
    rw [en228]
    clear x1 r2 hI hD
    subst hb1
    simp (disch := omega) only [r228_0, r228_1, r228_2, r228_5, r228_6, r228_7, r228_10, r228_11, r228_12, r228_15, r228_16, r228_19, r228_22, r228_23, r228_26, r228_27, r228_30, r228_31, r228_34, r228_35, r228_36, r228_37, r228_38, r228_39, r228_42, r228_43, r228_46, r228_47, r228_50, r228_53, r228_54, r228_57, r228_58, r228_61, r228_64, r228_65, r228_68, r228_71, r228_72, r228_75, r228_76, r228_79, r228_80, r228_83, r228_84, r228_85, r228_88, r228_89, r228_92, r228_93, r228_96, r228_99, r228_101, r228_102, r228_105, r228_106, r228_108, r228_111, r228_114, r228_115, r228_118, r228_119, r228_122, e1, c1, c2, ↓if_pos, ↓if_neg, Option.bind_some, pushR_s, pushR_n]
end
