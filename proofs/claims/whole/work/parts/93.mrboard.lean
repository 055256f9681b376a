/-! The reader of the model: a board, told. -/
section
variable {d : Nat} {I J K : MM} {t : Int → Int} {k lo hi v l p b w e : Int} {g : G} {c : Int} {q : SG}
theorem m_readBoard (hT : TM I t) (hn : 0 ≤ t (-1) ∧ t (-1) ≤ 200) (hk : 0 ≤ k ∧ k ≤ t (-1)) (hx : TKm I t k) (hN : MN I g c) (hg : WG g) (hb2 : g.nB < 2) (hc : 0 ≤ c ∧ c < 131072) : ∃ b J, call (d + 6) 225 [vR 70] I = some (some (vI b), J) ∧ RDm t J b (readB t g c (tE t k, -1)) ∧ FrN I J := by
  obtain ⟨J1, c1, x1, f1⟩ := m_goOn (d := d + 1) hT hn hk hx
  have fm1 := FrM.of f1
  have hk1 := tE_b (t := t) hk
  have hs1 := sk_b hk1
  have h7 := hg.last7
  have hB2 := hg.nB2
  have hW3 := hg.nW3
  have m1 := fm1.mn hN
  have z7 : I 70 27 = g.nB := by have := hN.1.1.2.2; simpa [NDF] using this
  have w1 : J1 70 27 = g.nB := (fm1 _ _ (by omega) (by omega)).trans z7
  unfold readB rbK rbL rbB rbP rb4 rb3 rb2 rb1
  obtain ⟨y1, y2⟩ := m_takes (d := d) (lo := 0) (hi := 5) (fm1.T hT) hn hk1 x1 (by omega)
  have hfail : ∀ (J : MM) (s : Int) (r : DS), r.2.2 = s → 0 ≤ s → J 70 21 = s → RDm t J 0 r := fun J s r h1 h2 h3 => ⟨fun z => by omega, fun _ => ⟨rfl, h3.trans h1.symm⟩⟩
  by_cases h1 : okN t (tE t k) 0 5 = true
  · obtain ⟨J2, c2, x2, e2, f2⟩ := y1 h1
    have hv1 := ok_in h1
    rw [nS_y h1, nV_y h1]
    generalize tkV t (sk t (tE t k)) (tE t (tE t k)) = v1 at *
    have hk2 := tE_b (t := t) hk1
    have hs2 := sk_b hk2
    have fa2 := fm1.trans f2
    have w2 : J2 70 27 = g.nB := (fa2 _ _ (by omega) (by omega)).trans z7
    obtain ⟨y3, y4⟩ := m_takes (d := d) (I := mset J2 85 (18 + 4 * g.nB) v1) (lo := 1) (hi := 3) ((fa2.T hT).set _ (by omega) (Or.inl (by omega))) hn hk2 (x2.set _ (Or.inl (by omega))) (by omega)
    by_cases h2 : okN t (tE t (tE t k)) 1 3 = true
    · obtain ⟨J3, c3, x3, e3, f3⟩ := y3 h2
      have hv2 := ok_in h2
      rw [nS_y h2, nV_y h2]
      generalize tkV t (sk t (tE t (tE t k))) (tE t (tE t (tE t k))) = v2 at *
      have hk3 := tE_b (t := t) hk2
      have hs3 := sk_b hk3
      have w3 : J3 70 27 = g.nB := (f3 _ _ (by omega) (by omega)).trans (by rw [mset_at, if_neg (by omega)]; exact w2)
      have T3 : TM J3 t := f3.T ((fa2.T hT).set _ (by omega) (Or.inl (by omega)))
      obtain ⟨y5, y6⟩ := m_takes (d := d) (I := mset J3 85 (18 + 4 * g.nB + 1) v2) (lo := 1) (hi := 30) (T3.set _ (by omega) (Or.inl (by omega))) hn hk3 (x3.set _ (Or.inl (by omega))) (by omega)
      have fN3 : FrN I J3 := (fa2.N.trans (FrN.set v1 (Or.inl rfl))).trans f3.N
      by_cases h3 : okN t (tE t (tE t (tE t k))) 1 30 = true
      · obtain ⟨J4, c4, x4, e4, f4⟩ := y5 h3
        have hv3 := ok_in h3
        rw [nS_y h3, nV_y h3]
        generalize tkV t (sk t (tE t (tE t (tE t k)))) (tE t (tE t (tE t (tE t k)))) = v3 at *
        have hk4 := tE_b (t := t) hk3
        have hs4 := sk_b hk4
        have T4 : TM J4 t := f4.T (T3.set _ (by omega) (Or.inl (by omega)))
        have fN4 : FrN I J4 := (fN3.trans (FrN.set v2 (Or.inl rfl))).trans f4.N
        have w4 : J4 70 27 = g.nB := (f4 _ _ (by omega) (by omega)).trans (by rw [mset_at, if_neg (by omega)]; exact w3)
        have w46 : J4 70 26 = I 70 26 := by
          rw [f4 _ _ (by omega) (by omega), mset_at, if_neg (by omega), f3 _ _ (by omega) (by omega), mset_at, if_neg (by omega), fa2 _ _ (by omega) (by omega)]
        have j4 : ∀ i, J4 85 i = if i = 18 + 4 * g.nB + 1 then v2 else if i = 18 + 4 * g.nB then v1 else I 85 i := fun i => by
          rw [f4 _ _ (by omega) (by omega), mset_at]
          by_cases q1 : i = 18 + 4 * g.nB + 1
          · rw [if_pos ⟨rfl, q1⟩, if_pos q1]
          · rw [if_neg (fun z => q1 z.2), if_neg q1, f3 _ _ (by omega) (by omega), mset_at]
            by_cases q2 : i = 18 + 4 * g.nB
            · rw [if_pos ⟨rfl, q2⟩, if_pos q2]
            · rw [if_neg (fun z => q2 z.2), if_neg q2, fa2 _ _ (by omega) (by omega)]
        have hgo : runs (call (d + 5)) 225 0 [vR 70, vR 0, vR 0, vR 0] [] I = runs (call (d + 5)) 225 94 [vR 70, vI (18 + 4 * g.nB), vI 1, vI 3] [] (mset J4 85 (18 + 4 * g.nB + 2) v3) := by
          clear x1 x2 x3 x4 y1 y2 y3 y4 y5 y6 hfail j4
          simp (disch := omega) only [r225_0, r225_1, r225_4, r225_5, r225_8, r225_9, r225_10, r225_11, r225_14, r225_16, r225_17, r225_18, r225_21, r225_22, r225_23, r225_24, r225_25, r225_26, r225_27, r225_28, r225_29, r225_30, r225_33, r225_34, r225_37, r225_38, r225_39, r225_42, r225_43, r225_46, r225_47, r225_48, r225_51, r225_52, r225_55, r225_56, r225_57, r225_60, r225_61, r225_64, r225_66, r225_69, r225_70, r225_71, r225_74, r225_75, r225_76, r225_77, r225_78, r225_81, r225_82, r225_85, r225_88, r225_89, r225_92, r225_93, r225_95, r225_98, r225_99, r225_100, r225_101, r225_104, r225_105, r225_106, r225_107, r225_108, r225_111, r225_112, r225_113, r225_116, r225_117, r225_120, r225_121, r225_124, r225_125, r225_126, r225_127, r225_130, r225_132, r225_133, r225_134, r225_135, r225_136, r225_137, r225_138, r225_141, r225_144, r225_145, r225_146, r225_149, r225_150, r225_153, r225_156, r225_157, r225_158, r225_159, r225_162, r225_163, r225_164, r225_165, r225_166, r225_169, r225_170, r225_171, r225_172, r225_175, r225_176, r225_177, r225_180, r225_181, r225_184, r225_185, c1, c2, c3, c4, e2, e3, e4, z7, w1, w2, w3, w4, mset_at, imul_eq, iadd_eq, Int.add_zero, Int.reduceAdd, ↓if_pos, ↓if_neg, Option.bind_some, pushR_s, pushR_n]
        have a0 : (mset J4 85 (18 + 4 * g.nB + 2) v3) 85 (18 + 4 * g.nB) = v1 := by rw [mset_at, if_neg (by omega), j4, if_neg (by omega), if_pos rfl]
        have a1 : (mset J4 85 (18 + 4 * g.nB + 2) v3) 85 (18 + 4 * g.nB + 1) = v2 := by rw [mset_at, if_neg (by omega), j4, if_pos rfl]
        have l4 : (mset J4 85 (18 + 4 * g.nB + 2) v3) 85 8 = g.last := by
          rw [mset_at, if_neg (by omega), j4, if_neg (by omega), if_neg (by omega)]
          have := hN.1.1.1; simpa [NDF] using this
        have w5 : (mset J4 85 (18 + 4 * g.nB + 2) v3) 70 27 = g.nB := by rw [mset_at, if_neg (by omega)]; exact w4
        have fN5 : FrN I (mset J4 85 (18 + 4 * g.nB + 2) v3) := fN4.trans (FrN.set _ (Or.inl rfl))
        have T5 : TM (mset J4 85 (18 + 4 * g.nB + 2) v3) t := T4.set _ (by omega) (Or.inl (by omega))
        have x5 : TKm (mset J4 85 (18 + 4 * g.nB + 2) v3) t (tE t (tE t (tE t (tE t k)))) := x4.set _ (Or.inl (by omega))
        have w56 : (mset J4 85 (18 + 4 * g.nB + 2) v3) 70 26 = I 70 26 := by rw [mset_at, if_neg (by omega)]; exact w46
        have j5 : ∀ i, (mset J4 85 (18 + 4 * g.nB + 2) v3) 85 i = if i = 18 + 4 * g.nB + 2 then v3 else if i = 18 + 4 * g.nB + 1 then v2 else if i = 18 + 4 * g.nB then v1 else I 85 i := fun i => by
          rw [mset_at]
          by_cases q1 : i = 18 + 4 * g.nB + 2
          · rw [if_pos ⟨rfl, q1⟩, if_pos q1]
          · rw [if_neg (fun z => q1 z.2), if_neg q1, j4]
        clear x1 x2 x3 x4 y1 y2 y3 y4 y5 y6 c1 c2 c3 c4 e2 e3 e4 T3 T4 fN3 fN4 j4 w1 w2 w3 w4 w46 f1 f2 f3 f4 fm1 fa2 m1
        generalize mset J4 85 (18 + 4 * g.nB + 2) v3 = M at *
        generalize tE t (tE t (tE t (tE t k))) = k4 at *
        have hlb := lng_b (k := v1)
        have hL : call (d + 5) 166 [vI v1, vI v2] M = some (some (vI (v2 + lng v1)), M) := m_longOf (d := d + 4) (by omega)
        obtain ⟨x51, x52, x53, x54⟩ := x5
        have hlt0 : 0 ≤ lie (bAt c 0) ∧ lie (bAt c 0) ≤ 15 := by
          have := bAt_b c 0
          unfold lie; split <;> omega
        have hp1 : g.nB = 1 → M 85 18 = g.kd 0 ∧ M 85 19 = g.ln 0 ∧ M 85 21 = lie (bAt c 0) := fun hn1 => by
          obtain ⟨g1, g2, g3⟩ := hN.1.2.2.2 0 (by omega) (by omega)
          have g4 := hN.2.2 0 (by omega) (by omega)
          simp only [NDF] at g1 g2 g3 g4
          refine ⟨?_, ?_, ?_⟩ <;> rw [j5, if_neg (by omega), if_neg (by omega), if_neg (by omega)] <;> assumption
        have hend : ¬ (okN t k4 0 g.last = true ∧ fitB g c v1 v2 (tkV t (sk t k4) (tE t k4)) = true) → runs (call (d + 5)) 225 94 [vR 70, vI (18 + 4 * g.nB), vI 1, vI 3] [] M = some (some (vI 0), M) := by
          intro hno
          by_cases q1 : M 70 23 = 2
          · have o2 : tkK t (t (-1)) (sk t k4) = 2 ∧ ¬ 2 < tkE t (t (-1)) (sk t k4) - sk t k4 := by
              rw [x53] at q1
              split at q1
              · omega
              · rename_i z
                exact ⟨q1, fun y => z ⟨q1, y⟩⟩
            have q2 : M 70 24 = tkV t (sk t k4) (tE t k4) := x54 o2.1 (by omega)
            have okd : okN t k4 0 g.last = true ↔ 0 ≤ tkV t (sk t k4) (tE t k4) ∧ tkV t (sk t k4) (tE t k4) ≤ g.last := ⟨fun z => (of_decide_eq_true z).2, fun z => decide_eq_true ⟨o2.1, z⟩⟩
            generalize tkV t (sk t k4) (tE t k4) = v4 at *
            by_cases q3 : 0 ≤ v4 ∧ v4 ≤ g.last - (v2 + lng v1) + 1
            · have q4 : okN t k4 0 g.last = true := okd.mpr ⟨q3.1, by omega⟩
              have q5 : ¬ fitB g c v1 v2 v4 = true := fun z => hno ⟨q4, z⟩
              rw [fit_iff hg hb2 ⟨q3.1, by omega⟩ hv2] at q5
              have q6 : 0 < g.nB ∧ v4 ≤ lie (bAt c 0) + g.sp 0 - 1 ∧ lie (bAt c 0) ≤ v4 + (v2 + lng v1) - 1 := Classical.byContradiction fun z => q5 ⟨by omega, z⟩
              have hn1 : g.nB = 1 := by omega
              obtain ⟨p18, p19, p21⟩ := hp1 hn1
              have hlt := hlt0
              have hsp := hg.spE (b := 0) (by omega) (by omega)
              have hln := hg.ln3 (b := 0) (by omega) (by omega)
              have hm := m_meets (d := d + 3) (I := M) (p := v4) (w := v2 + lng v1) (by omega) (by omega) ⟨q3.1, by omega⟩ (by omega) (by omega)
              rw [p18, p19, p21, ← hsp, if_pos (by omega)] at hm
              clear okd hno q5 x52 x53 x54 hfail
              simp (disch := omega) only [r225_0, r225_1, r225_4, r225_5, r225_8, r225_9, r225_10, r225_11, r225_14, r225_16, r225_17, r225_18, r225_21, r225_22, r225_23, r225_24, r225_25, r225_26, r225_27, r225_28, r225_29, r225_30, r225_33, r225_34, r225_37, r225_38, r225_39, r225_42, r225_43, r225_46, r225_47, r225_48, r225_51, r225_52, r225_55, r225_56, r225_57, r225_60, r225_61, r225_64, r225_66, r225_69, r225_70, r225_71, r225_74, r225_75, r225_76, r225_77, r225_78, r225_81, r225_82, r225_85, r225_88, r225_89, r225_92, r225_93, r225_94, r225_95, r225_98, r225_99, r225_100, r225_101, r225_104, r225_105, r225_106, r225_107, r225_108, r225_111, r225_112, r225_113, r225_116, r225_117, r225_120, r225_121, r225_124, r225_125, r225_126, r225_127, r225_130, r225_132, r225_133, r225_134, r225_135, r225_136, r225_137, r225_138, r225_141, r225_144, r225_145, r225_146, r225_149, r225_150, r225_153, r225_156, r225_157, r225_158, r225_159, r225_162, r225_163, r225_164, r225_165, r225_166, r225_169, r225_170, r225_171, r225_172, r225_175, r225_176, r225_177, r225_180, r225_181, r225_184, r225_185, a0, a1, l4, hL, q1, q2, m_in, isub_eq, iadd_eq, hm, ↓if_pos, ↓if_neg, Option.bind_some, pushR_s, pushR_n]
            · clear okd hno x52 x53 x54 hfail
              simp (disch := omega) only [r225_0, r225_1, r225_4, r225_5, r225_8, r225_9, r225_10, r225_11, r225_14, r225_16, r225_17, r225_18, r225_21, r225_22, r225_23, r225_24, r225_25, r225_26, r225_27, r225_28, r225_29, r225_30, r225_33, r225_34, r225_37, r225_38, r225_39, r225_42, r225_43, r225_46, r225_47, r225_48, r225_51, r225_52, r225_55, r225_56, r225_57, r225_60, r225_61, r225_64, r225_66, r225_69, r225_70, r225_71, r225_74, r225_75, r225_76, r225_77, r225_78, r225_81, r225_82, r225_85, r225_88, r225_89, r225_92, r225_93, r225_94, r225_95, r225_98, r225_99, r225_100, r225_101, r225_104, r225_105, r225_106, r225_107, r225_108, r225_111, r225_112, r225_113, r225_116, r225_117, r225_120, r225_121, r225_124, r225_125, r225_126, r225_127, r225_130, r225_132, r225_133, r225_134, r225_135, r225_136, r225_137, r225_138, r225_141, r225_144, r225_145, r225_146, r225_149, r225_150, r225_153, r225_156, r225_157, r225_158, r225_159, r225_162, r225_163, r225_164, r225_165, r225_166, r225_169, r225_170, r225_171, r225_172, r225_175, r225_176, r225_177, r225_180, r225_181, r225_184, r225_185, a0, a1, l4, hL, q1, q2, m_in, isub_eq, iadd_eq, ↓if_pos, ↓if_neg, Option.bind_some, pushR_s, pushR_n]
          · clear hno x52 x53 x54 hfail
            simp (disch := omega) only [r225_0, r225_1, r225_4, r225_5, r225_8, r225_9, r225_10, r225_11, r225_14, r225_16, r225_17, r225_18, r225_21, r225_22, r225_23, r225_24, r225_25, r225_26, r225_27, r225_28, r225_29, r225_30, r225_33, r225_34, r225_37, r225_38, r225_39, r225_42, r225_43, r225_46, r225_47, r225_48, r225_51, r225_52, r225_55, r225_56, r225_57, r225_60, r225_61, r225_64, r225_66, r225_69, r225_70, r225_71, r225_74, r225_75, r225_76, r225_77, r225_78, r225_81, r225_82, r225_85, r225_88, r225_89, r225_92, r225_93, r225_94, r225_95, r225_98, r225_99, r225_100, r225_101, r225_104, r225_105, r225_106, r225_107, r225_108, r225_111, r225_112, r225_113, r225_116, r225_117, r225_120, r225_121, r225_124, r225_125, r225_126, r225_127, r225_130, r225_132, r225_133, r225_134, r225_135, r225_136, r225_137, r225_138, r225_141, r225_144, r225_145, r225_146, r225_149, r225_150, r225_153, r225_156, r225_157, r225_158, r225_159, r225_162, r225_163, r225_164, r225_165, r225_166, r225_169, r225_170, r225_171, r225_172, r225_175, r225_176, r225_177, r225_180, r225_181, r225_184, r225_185, a0, a1, l4, hL, isub_eq, iadd_eq, ↓if_pos, ↓if_neg, Option.bind_some, pushR_s, pushR_n]
        by_cases h4 : okN t k4 0 g.last = true
        · by_cases h5 : fitB g c v1 v2 (tkV t (sk t k4) (tE t k4)) = true
          · rw [nS_y h4, nV_y h4, if_pos rfl, if_pos h5]
            have o4 := of_decide_eq_true h4
            have t2 : ¬ (tkK t (t (-1)) (sk t k4) = 2 ∧ 2 < tkE t (t (-1)) (sk t k4) - sk t k4) := fun z => by
              have hbig : tkV t (sk t k4) (tkE t (t (-1)) (sk t k4)) = -1 := by unfold tkV; rw [if_neg (by omega), if_neg (by omega)]
              omega
            have q1 : M 70 23 = 2 := by rw [x53, if_neg t2]; exact o4.1
            have q2 : M 70 24 = tkV t (sk t k4) (tE t k4) := x54 o4.1 (Int.not_lt.mp fun z => t2 ⟨o4.1, z⟩)
            have hv4 := ok_in h4
            generalize tkV t (sk t k4) (tE t k4) = v4 at *
            obtain ⟨i1, i2⟩ := (fit_iff hg hb2 ⟨hv4.1, hv4.2⟩ hv2).mp h5
            have h19 : 0 ≤ M 85 19 ∧ M 85 19 ≤ 10 := by
              by_cases z : g.nB = 1
              · have := (hp1 z).2.1
                have := hg.ln3 (b := 0) (by omega) (by omega)
                omega
              · have z0 : g.nB = 0 := by omega
                have := a1; rw [z0] at this
                have e19 : M 85 19 = v2 := this
                omega
            have hm : call (d + 5) 226 [vR 70, vI v4, vI (v2 + lng v1)] M = some (some (vI 0), M) := by
              rw [m_meets (d := d + 3) (by omega) h19 ⟨hv4.1, by omega⟩ (by omega) (fun z => by
                have := (hp1 (by omega)).2.2
                omega), if_neg]
              rintro ⟨u1, u2, u3⟩
              have hn1 : g.nB = 1 := by omega
              obtain ⟨p18, p19, p21⟩ := hp1 hn1
              have hsp := hg.spE (b := 0) (by omega) (by omega)
              rw [p18, p19, p21, ← hsp] at u2
              rw [p21] at u3
              exact i2 ⟨by omega, u2, u3⟩
            have x6 : TKm (mset (mset M 85 (18 + 4 * g.nB + 3) v4) 70 27 (g.nB + 1)) t k4 := (TKm.set (a := 85) (i := 18 + 4 * g.nB + 3) v4 ⟨x51, x52, x53, x54⟩ (Or.inl (by omega))).set _ (Or.inr (by omega))
            obtain ⟨J5, c5, x7, f5⟩ := m_goOn (d := d + 1) ((T5.set (a := 85) (i := 18 + 4 * g.nB + 3) v4 (by omega) (Or.inl (by omega))).set (a := 70) (i := 27) (g.nB + 1) (by omega) (Or.inr (by omega))) hn hk4 x6
            refine ⟨1, J5, ?_, ⟨fun _ => ⟨rfl, x7, ?_⟩, fun z => absurd rfl z⟩, (fN5.trans ((FrN.set _ (Or.inl rfl)).trans (FrN.set _ (Or.inr (by omega))))).trans (FrM.of f5).N⟩
            · rw [en225, hgo]
              clear hend x51 x52 x53 x54 x6 x7 hfail t2 o4 hp1
              simp (disch := omega) only [r225_0, r225_1, r225_4, r225_5, r225_8, r225_9, r225_10, r225_11, r225_14, r225_16, r225_17, r225_18, r225_21, r225_22, r225_23, r225_24, r225_25, r225_26, r225_27, r225_28, r225_29, r225_30, r225_33, r225_34, r225_37, r225_38, r225_39, r225_42, r225_43, r225_46, r225_47, r225_48, r225_51, r225_52, r225_55, r225_56, r225_57, r225_60, r225_61, r225_64, r225_66, r225_69, r225_70, r225_71, r225_74, r225_75, r225_76, r225_77, r225_78, r225_81, r225_82, r225_85, r225_88, r225_89, r225_92, r225_93, r225_94, r225_95, r225_98, r225_99, r225_100, r225_101, r225_104, r225_105, r225_106, r225_107, r225_108, r225_111, r225_112, r225_113, r225_116, r225_117, r225_120, r225_121, r225_124, r225_125, r225_126, r225_127, r225_130, r225_132, r225_133, r225_134, r225_135, r225_136, r225_137, r225_138, r225_141, r225_144, r225_145, r225_146, r225_149, r225_150, r225_153, r225_156, r225_157, r225_158, r225_159, r225_162, r225_163, r225_164, r225_165, r225_166, r225_169, r225_170, r225_171, r225_172, r225_175, r225_176, r225_177, r225_180, r225_181, r225_184, r225_185, a0, a1, l4, hL, q1, q2, m_in, isub_eq, iadd_eq, hm, w5, mset_at, c5, ↓if_pos, ↓if_neg, Option.bind_some, pushR_s, pushR_n]
            · have hf : ∀ i, NDF J5 i = if i = 68 then g.nB + 1 else if i = 18 + 4 * g.nB + 3 then v4 else if i = 18 + 4 * g.nB + 2 then v3 else if i = 18 + 4 * g.nB + 1 then v2 else if i = 18 + 4 * g.nB then v1 else NDF I i := fun i => by
                unfold NDF
                rw [f5 70 26 (by omega), f5 70 27 (by omega), f5 85 i (by omega)]
                by_cases q0 : i = 67
                · rw [if_pos q0, if_neg (by omega), if_neg (by omega), if_neg (by omega), if_neg (by omega), if_neg (by omega), if_pos q0, mset_at, if_neg (by omega), mset_at, if_neg (by omega), w56]
                · rw [if_neg q0, if_neg q0]
                  by_cases q1 : i = 68
                  · rw [if_pos q1, if_pos q1, mset_at, if_pos ⟨rfl, rfl⟩]
                  · rw [if_neg q1, if_neg q1, if_neg q1, mset_at, if_neg (by omega), mset_at]
                    by_cases q2 : i = 18 + 4 * g.nB + 3
                    · rw [if_pos ⟨rfl, q2⟩, if_pos q2]
                    · rw [if_neg (fun z => q2 z.2), if_neg q2, j5]
              have en : (addB g v1 v2 v3).nB = g.nB + 1 := by simp [addB, G.nB]
              have e1' : ∀ i, (addB g v1 v2 v3).kd i = if i = g.nB then v1 else g.kd i := fun i => by simp [addB, G.kd]
              have e2' : ∀ i, (addB g v1 v2 v3).ln i = if i = g.nB then v2 else g.ln i := fun i => by simp [addB, G.ln]
              have e3' : ∀ i, (addB g v1 v2 v3).br i = if i = g.nB then v3 else g.br i := fun i => by simp [addB, G.br]
              have el : (addB g v1 v2 v3).last = g.last := rfl
              have ew : (addB g v1 v2 v3).nW = g.nW := rfl
              clear hend x51 x52 x53 x54 x6 x7 hfail t2 o4 hp1
              obtain ⟨⟨⟨b1, b2, b3⟩, b4, b5, b6⟩, d1, d2⟩ := hN
              refine ⟨⟨⟨?_, ?_, ?_⟩, fun p p0 p1 => ?_, fun w w0 w1 => ?_, fun b e0 e1 => ?_⟩, fun w w0 w1 => ?_, fun b e0 e1 => ?_⟩
              · rw [hf, if_neg (by omega), if_neg (by omega), if_neg (by omega), if_neg (by omega), if_neg (by omega)]; exact b1
              · rw [hf, if_neg (by omega), if_neg (by omega), if_neg (by omega), if_neg (by omega), if_neg (by omega)]; exact b2
              · rw [hf, if_pos rfl, en]
              · have p2 : p ≤ g.last := p1
                rw [hf, if_neg (by omega), if_neg (by omega), if_neg (by omega), if_neg (by omega), if_neg (by omega)]; exact b4 p p0 p1
              · have w2 : w < g.nW := w1
                rw [hf, hf]; simp (disch := omega) only [↓if_pos, ↓if_neg]; exact b5 w w0 w2
              · rw [en] at e1
                rw [hf, hf, hf, e1', e2', e3']
                by_cases q : b = g.nB
                · refine ⟨?_, ?_, ?_⟩ <;> simp (disch := omega) only [↓if_pos, ↓if_neg]
                · simp (disch := omega) only [↓if_pos, ↓if_neg]; exact b6 b e0 (by omega)
              · have w2 : w < g.nW := w1
                rw [hf, if_neg (by omega), if_neg (by omega), if_neg (by omega), if_neg (by omega), if_neg (by omega), wAt_setB ⟨hB2.1, hb2⟩ ⟨w0, by omega⟩ ⟨hv4.1, by omega⟩]; exact d1 w w0 w2
              · rw [en] at e1
                rw [hf, bAt_setB ⟨hB2.1, hb2⟩ ⟨e0, by omega⟩ ⟨hv4.1, by omega⟩]
                by_cases q : b = g.nB
                · rw [if_neg (by omega), if_pos (by omega), if_pos q, lie_n (by omega)]
                · rw [if_neg (by omega), if_neg (by omega), if_neg (by omega), if_neg (by omega), if_neg (by omega), if_neg q]; exact d2 b e0 (by omega)
          · rw [nS_y h4, nV_y h4, if_pos rfl, if_neg h5]
            refine ⟨0, M, ?_, hfail _ _ _ rfl (Int.le_trans hk4.1 hs4.1) x51, fN5⟩
            rw [en225, hgo]
            exact hend fun z => h5 z.2
        · rw [nS_n h4, if_neg (by show ¬ sk t k4 = -1; omega)]
          refine ⟨0, M, ?_, hfail _ _ _ rfl (Int.le_trans hk4.1 hs4.1) x51, fN5⟩
          rw [en225, hgo]
          exact hend fun z => h4 z.1
      · rw [nS_n h3, nS_br (q := (tE t (tE t (tE t (tE t k))), sk t (tE t (tE t (tE t k))))) (by show sk t (tE t (tE t (tE t k))) ≠ -1; omega), if_neg (by show ¬ sk t (tE t (tE t (tE t k))) = -1; omega)]
        refine ⟨0, mset (mset J3 85 (18 + 4 * g.nB + 1) v2) 85 (18 + 4 * g.nB + 2) (J3 70 28), ?_, hfail _ _ _ rfl (Int.le_trans hk3.1 hs3.1) ?_, ?_⟩
        · rw [en225]
          have y6' := y6 h3
          clear x1 x2 x3 y1 y2 y3 y4 y5 y6 hfail
          simp (disch := omega) only [r225_0, r225_1, r225_4, r225_5, r225_8, r225_9, r225_10, r225_11, r225_14, r225_16, r225_17, r225_18, r225_21, r225_22, r225_23, r225_24, r225_25, r225_26, r225_27, r225_28, r225_29, r225_30, r225_33, r225_34, r225_37, r225_38, r225_39, r225_42, r225_43, r225_46, r225_47, r225_48, r225_51, r225_52, r225_55, r225_56, r225_57, r225_60, r225_61, r225_64, r225_66, r225_69, r225_70, r225_71, r225_74, r225_75, r225_76, r225_77, r225_78, r225_81, r225_82, r225_85, r225_88, r225_89, r225_92, r225_93, r225_95, r225_98, r225_99, r225_100, r225_101, r225_104, r225_105, r225_106, r225_107, r225_108, r225_111, r225_112, r225_113, r225_116, r225_117, r225_120, r225_121, r225_124, r225_125, r225_126, r225_127, r225_130, r225_132, r225_133, r225_134, r225_135, r225_136, r225_137, r225_138, r225_141, r225_144, r225_145, r225_146, r225_149, r225_150, r225_153, r225_156, r225_157, r225_158, r225_159, r225_162, r225_163, r225_164, r225_165, r225_166, r225_169, r225_170, r225_171, r225_172, r225_175, r225_176, r225_177, r225_180, r225_181, r225_184, r225_185, c1, c2, c3, y6', e2, e3, z7, w1, w2, w3, mset_at, imul_eq, iadd_eq, Int.add_zero, Int.reduceAdd, ↓if_pos, ↓if_neg, Option.bind_some, pushR_s, pushR_n]
        · exact ((x3.set _ (Or.inl (by omega))).set _ (Or.inl (by omega))).at
        · exact fN3.trans ((FrN.set _ (Or.inl rfl)).trans (FrN.set _ (Or.inl rfl)))
    · rw [nS_n h2, nS_br (q := (tE t (tE t (tE t k)), sk t (tE t (tE t k)))) (by show sk t (tE t (tE t k)) ≠ -1; omega), nS_br (q := (tE t (tE t (tE t k)), sk t (tE t (tE t k)))) (by show sk t (tE t (tE t k)) ≠ -1; omega), if_neg (by show ¬ sk t (tE t (tE t k)) = -1; omega)]
      refine ⟨0, mset (mset J2 85 (18 + 4 * g.nB) v1) 85 (18 + 4 * g.nB + 1) (J2 70 28), ?_, hfail _ _ _ rfl (Int.le_trans hk2.1 hs2.1) ?_, ?_⟩
      · rw [en225]
        have y4' := y4 h2
        clear x1 x2 y1 y2 y3 y4 hfail
        simp (disch := omega) only [r225_0, r225_1, r225_4, r225_5, r225_8, r225_9, r225_10, r225_11, r225_14, r225_16, r225_17, r225_18, r225_21, r225_22, r225_23, r225_24, r225_25, r225_26, r225_27, r225_28, r225_29, r225_30, r225_33, r225_34, r225_37, r225_38, r225_39, r225_42, r225_43, r225_46, r225_47, r225_48, r225_51, r225_52, r225_55, r225_56, r225_57, r225_60, r225_61, r225_64, r225_66, r225_69, r225_70, r225_71, r225_74, r225_75, r225_76, r225_77, r225_78, r225_81, r225_82, r225_85, r225_88, r225_89, r225_92, r225_93, r225_95, r225_98, r225_99, r225_100, r225_101, r225_104, r225_105, r225_106, r225_107, r225_108, r225_111, r225_112, r225_113, r225_116, r225_117, r225_120, r225_121, r225_124, r225_125, r225_126, r225_127, r225_130, r225_132, r225_133, r225_134, r225_135, r225_136, r225_137, r225_138, r225_141, r225_144, r225_145, r225_146, r225_149, r225_150, r225_153, r225_156, r225_157, r225_158, r225_159, r225_162, r225_163, r225_164, r225_165, r225_166, r225_169, r225_170, r225_171, r225_172, r225_175, r225_176, r225_177, r225_180, r225_181, r225_184, r225_185, c1, c2, y4', e2, z7, w1, w2, mset_at, imul_eq, iadd_eq, Int.add_zero, Int.reduceAdd, ↓if_pos, ↓if_neg, Option.bind_some, pushR_s, pushR_n]
      · exact ((x2.set _ (Or.inl (by omega))).set _ (Or.inl (by omega))).at
      · exact fa2.N.trans ((FrN.set _ (Or.inl rfl)).trans (FrN.set _ (Or.inl rfl)))
  · rw [nS_n h1, nS_br (q := (tE t (tE t k), sk t (tE t k))) (by show sk t (tE t k) ≠ -1; omega), nS_br (q := (tE t (tE t k), sk t (tE t k))) (by show sk t (tE t k) ≠ -1; omega), nS_br (q := (tE t (tE t k), sk t (tE t k))) (by show sk t (tE t k) ≠ -1; omega), if_neg (by show ¬ sk t (tE t k) = -1; omega)]
    refine ⟨0, mset J1 85 (18 + 4 * g.nB) (J1 70 28), ?_, hfail _ _ _ rfl (Int.le_trans hk1.1 hs1.1) ?_, ?_⟩
    · rw [en225]
      have y2' := y2 h1
      clear x1 y1 y2 hfail
      simp (disch := omega) only [r225_0, r225_1, r225_4, r225_5, r225_8, r225_9, r225_10, r225_11, r225_14, r225_16, r225_17, r225_18, r225_21, r225_22, r225_23, r225_24, r225_25, r225_26, r225_27, r225_28, r225_29, r225_30, r225_33, r225_34, r225_37, r225_38, r225_39, r225_42, r225_43, r225_46, r225_47, r225_48, r225_51, r225_52, r225_55, r225_56, r225_57, r225_60, r225_61, r225_64, r225_66, r225_69, r225_70, r225_71, r225_74, r225_75, r225_76, r225_77, r225_78, r225_81, r225_82, r225_85, r225_88, r225_89, r225_92, r225_93, r225_95, r225_98, r225_99, r225_100, r225_101, r225_104, r225_105, r225_106, r225_107, r225_108, r225_111, r225_112, r225_113, r225_116, r225_117, r225_120, r225_121, r225_124, r225_125, r225_126, r225_127, r225_130, r225_132, r225_133, r225_134, r225_135, r225_136, r225_137, r225_138, r225_141, r225_144, r225_145, r225_146, r225_149, r225_150, r225_153, r225_156, r225_157, r225_158, r225_159, r225_162, r225_163, r225_164, r225_165, r225_166, r225_169, r225_170, r225_171, r225_172, r225_175, r225_176, r225_177, r225_180, r225_181, r225_184, r225_185, c1, y2', z7, w1, mset_at, imul_eq, iadd_eq, Int.add_zero, Int.reduceAdd, ↓if_pos, ↓if_neg, Option.bind_some, pushR_s, pushR_n]
    · exact (x1.set _ (Or.inl (by omega))).at
    · exact fm1.N.trans (FrN.set _ (Or.inl rfl))
end
