/-! The reader of the model: an island, a walker. -/
section
variable {d : Nat} {I J K : MM} {t : Int → Int} {k lo hi v l p b w e : Int} {g : G} {c : Int} {q : SG}
theorem ground_isl (hg : WG g) (hv : 1 ≤ v ∧ v ≤ g.last - 1) (hp : 0 ≤ p ∧ p ≤ g.last) : ground (islG g v) p = if p = v then 1 else ground g p := by
  have h2 := hg.isl7
  have h7 := hg.last7
  have e1 : (islG g v).last = g.last := rfl
  have e2 : (islG g v).isl = ior g.isl (ishl 1 v) := by simp [islG, G.isl]
  have e3 : ishl 1 v = ((2 ^ v.toNat : Nat) : Int) := by
    have : v = 1 ∨ v = 2 ∨ v = 3 ∨ v = 4 ∨ v = 5 ∨ v = 6 := by omega
    rcases this with rfl | rfl | rfl | rfl | rfl | rfl <;> decide
  obtain ⟨n, hn⟩ : ∃ a : Nat, g.isl = a := ⟨g.isl.toNat, (Int.toNat_of_nonneg h2.1).symm⟩
  have h3 : 2 ^ v.toNat < 2 ^ 7 := Nat.pow_lt_pow_right (by decide) (by omega)
  have key : ∀ m : Nat, ((m : Int) / 2 ^ p.toNat % 2 = 1) ↔ m.testBit p.toNat = true := fun m => by
    rw [Nat.testBit_eq_decide_div_mod_eq, decide_eq_true_eq]
    have : ((m : Int) / 2 ^ p.toNat % 2) = ((m / 2 ^ p.toNat % 2 : Nat) : Int) := by simp
    rw [this]; omega
  unfold ground
  rw [e1, e2, hn, e3, ior_n (by omega) (by omega)]
  by_cases h : p = 0 ∨ p = g.last
  · rw [if_pos h, if_neg (by omega), if_pos h]
  · rw [if_neg h, if_neg h]
    simp only [key, Nat.testBit_or, Nat.testBit_two_pow]
    by_cases hv' : p = v
    · rw [if_pos hv', if_pos (by subst hv'; simp)]
    · rw [if_neg hv']
      have : ¬ v.toNat = p.toNat := by omega
      simp [this]
theorem m_readIsland (hT : TM I t) (hn : 0 ≤ t (-1) ∧ t (-1) ≤ 200) (hk : 0 ≤ k ∧ k ≤ t (-1)) (hx : TKm I t k) (hN : MN I g c) (hg : WG g) : ∃ b J, call (d + 6) 223 [vR 70] I = some (some (vI b), J) ∧ RDm t J b ((islG g (nV t 1 (g.last - 1) (tE t k, -1)), c), nS t 1 (g.last - 1) (tE t k, -1)) ∧ FrN I J := by
  obtain ⟨J1, c1, x1, f1⟩ := m_goOn (d := d + 1) hT hn hk hx
  have fm1 := FrM.of f1
  have hk1 := tE_b (t := t) hk
  have hs1 := sk_b hk1
  have h7 := hg.last7
  have m1 := fm1.mn hN
  have l1 : J1 85 8 = g.last := m1.1.1.1
  obtain ⟨y1, y2⟩ := m_takes (d := d) (lo := 1) (hi := g.last - 1) (fm1.T hT) hn hk1 x1 (by omega)
  by_cases h2 : okN t (tE t k) 1 (g.last - 1) = true
  · obtain ⟨J2, c2, x2, e2, f2⟩ := y1 h2
    have hv := ok_in h2
    rw [nS_y h2, nV_y h2]
    generalize tkV t (sk t (tE t k)) (tE t (tE t k)) = v at *
    have fa := fm1.trans f2
    have m2 := f2.mn m1
    refine ⟨1, mset J2 85 v 1, ?_, ⟨fun _ => ⟨rfl, x2.set _ (Or.inl (by omega)), ?_⟩, fun z => absurd rfl z⟩, fa.N.trans (FrN.set _ (Or.inl rfl))⟩
    · rw [en223]
      simp (disch := omega) only [r223_0, r223_1, r223_4, r223_5, r223_6, r223_7, r223_10, r223_12, r223_13, r223_14, r223_15, r223_18, r223_21, r223_22, r223_23, r223_24, r223_27, r223_28, r223_29, r223_32, r223_33, r223_34, r223_35, r223_36, c1, c2, e2, l1, isub_eq, ↓if_pos, ↓if_neg, Option.bind_some, pushR_s, pushR_n, Int.zero_add, iadd_eq]
    · have hf : ∀ i, i ≠ v → NDF (mset J2 85 v 1) i = NDF J2 i := fun i hi => by
        unfold NDF
        rw [show (mset J2 85 v 1) 70 26 = J2 70 26 by rw [mset_at, if_neg (by omega)], show (mset J2 85 v 1) 70 27 = J2 70 27 by rw [mset_at, if_neg (by omega)], show (mset J2 85 v 1) 85 i = J2 85 i by rw [mset_at, if_neg (by omega)]]
      have hfv : NDF (mset J2 85 v 1) v = 1 := by
        unfold NDF; rw [if_neg (by omega), if_neg (by omega), mset_at, if_pos ⟨rfl, rfl⟩]
      obtain ⟨⟨⟨a1, a2, a3⟩, a4, a5, a6⟩, b1, b2⟩ := m2
      have hw := hg.nW3; have hb := hg.nB2
      refine ⟨⟨⟨(hf _ (by omega)).trans a1, (hf _ (by omega)).trans a2, (hf _ (by omega)).trans a3⟩, fun p p0 p1 => ?_, fun w w0 w1 => ⟨(hf _ (by omega)).trans (a5 w w0 w1).1, (hf _ (by omega)).trans (a5 w w0 w1).2⟩, fun b e0 e1 => ⟨(hf _ (by omega)).trans (a6 b e0 e1).1, (hf _ (by omega)).trans (a6 b e0 e1).2.1, (hf _ (by omega)).trans (a6 b e0 e1).2.2⟩⟩, fun w w0 w1 => (hf _ (by omega)).trans (b1 w w0 w1), fun b e0 e1 => (hf _ (by omega)).trans (b2 b e0 e1)⟩
      rw [ground_isl hg hv ⟨p0, p1⟩]
      by_cases hp : p = v
      · rw [if_pos hp, hp]; exact hfv
      · rw [if_neg hp]; exact (hf _ hp).trans (a4 p p0 p1)
  · rw [nS_n h2]
    refine ⟨0, J1, ?_, ⟨fun z => ?_, fun _ => ⟨rfl, x1.at⟩⟩, fm1.N⟩
    · rw [en223]
      simp (disch := omega) only [r223_0, r223_1, r223_4, r223_5, r223_6, r223_7, r223_10, r223_12, r223_13, r223_14, r223_15, r223_18, r223_21, r223_22, r223_23, r223_24, r223_27, r223_28, r223_29, r223_32, r223_33, r223_34, r223_35, r223_36, c1, y2 h2, l1, isub_eq, ↓if_pos, ↓if_neg, Option.bind_some, pushR_s, pushR_n]
    · have z' : sk t (tE t k) = -1 := z
      omega
theorem m_readWalker (hT : TM I t) (hn : 0 ≤ t (-1) ∧ t (-1) ≤ 200) (hk : 0 ≤ k ∧ k ≤ t (-1)) (hx : TKm I t k) (hN : MN I g c) (hg : WG g) (hw3 : g.nW < 3) (hc : 0 ≤ c ∧ c < 131072) : ∃ b J, call (d + 6) 224 [vR 70] I = some (some (vI b), J) ∧ RDm t J b ((addW g (nV t 1 9 (tE t k, -1)) (nV t 0 1 (ri2 t g.last (tE t k, -1))), setW c g.nW (nV t 0 g.last (ri1 t (tE t k, -1)))), ri3 t g.last (tE t k, -1)) ∧ FrN I J := by
  obtain ⟨J1, c1, x1, f1⟩ := m_goOn (d := d + 1) hT hn hk hx
  have fm1 := FrM.of f1
  have hk1 := tE_b (t := t) hk
  have hs1 := sk_b hk1
  have h7 := hg.last7
  have hn3 := hg.nW3
  have m1 := fm1.mn hN
  have z6 : I 70 26 = g.nW := by have := hN.1.1.2.1; simpa [NDF] using this
  have w1 : J1 70 26 = g.nW := (fm1 _ _ (by omega) (by omega)).trans z6
  unfold ri3 ri2 ri1
  obtain ⟨y1, y2⟩ := m_takes (d := d) (lo := 1) (hi := 9) (fm1.T hT) hn hk1 x1 (by omega)
  have hfail : ∀ (J : MM) (s : Int) (r : DS), r.2.2 = s → 0 ≤ s → J 70 21 = s → RDm t J 0 r := fun J s r h1 h2 h3 => ⟨fun z => by omega, fun _ => ⟨rfl, h3.trans h1.symm⟩⟩
  by_cases h1 : okN t (tE t k) 1 9 = true
  · obtain ⟨J2, c2, x2, e2, f2⟩ := y1 h1
    have hv1 := ok_in h1
    rw [nS_y h1, nV_y h1]
    generalize tkV t (sk t (tE t k)) (tE t (tE t k)) = v1 at *
    have hk2 := tE_b (t := t) hk1
    have hs2 := sk_b hk2
    have fa2 := fm1.trans f2
    have w2 : J2 70 26 = g.nW := (fa2 _ _ (by omega) (by omega)).trans z6
    have l2 : J2 85 8 = g.last := (f2.mn m1).1.1.1
    obtain ⟨y3, y4⟩ := m_takes (d := d) (I := mset J2 85 (9 + 3 * g.nW) v1) (lo := 0) (hi := g.last) ((fa2.T hT).set _ (by omega) (Or.inl (by omega))) hn hk2 (x2.set _ (Or.inl (by omega))) (by omega)
    by_cases h2 : okN t (tE t (tE t k)) 0 g.last = true
    · obtain ⟨J3, c3, x3, e3, f3⟩ := y3 h2
      have hv2 := ok_in h2
      rw [nS_y h2, nV_y h2]
      generalize tkV t (sk t (tE t (tE t k))) (tE t (tE t (tE t k))) = v2 at *
      have hk3 := tE_b (t := t) hk2
      have hs3 := sk_b hk3
      have w3 : J3 70 26 = g.nW := (f3 _ _ (by omega) (by omega)).trans (by rw [mset_at, if_neg (by omega)]; exact w2)
      have T3 : TM J3 t := f3.T ((fa2.T hT).set _ (by omega) (Or.inl (by omega)))
      obtain ⟨y5, y6⟩ := m_takes (d := d) (I := mset J3 85 (9 + 3 * g.nW + 1) v2) (lo := 0) (hi := 1) (T3.set _ (by omega) (Or.inl (by omega))) hn hk3 (x3.set _ (Or.inl (by omega))) (by omega)
      by_cases h3 : okN t (tE t (tE t (tE t k))) 0 1 = true
      · obtain ⟨J4, c4, x4, e4, f4⟩ := y5 h3
        have hv3 := ok_in h3
        rw [nS_y h3, nV_y h3]
        generalize tkV t (sk t (tE t (tE t (tE t k)))) (tE t (tE t (tE t (tE t k)))) = v3 at *
        have w4 : J4 70 26 = g.nW := (f4 _ _ (by omega) (by omega)).trans (by rw [mset_at, if_neg (by omega)]; exact w3)
        have fz : FrN I (mset (mset J4 85 (9 + 3 * g.nW + 2) v3) 70 26 (g.nW + 1)) := ((((fa2.N.trans (FrN.set _ (Or.inl rfl))).trans f3.N).trans (FrN.set _ (Or.inl rfl))).trans f4.N).trans ((FrN.set _ (Or.inl rfl)).trans (FrN.set _ (Or.inr (by omega))))
        refine ⟨1, mset (mset J4 85 (9 + 3 * g.nW + 2) v3) 70 26 (g.nW + 1), ?_, ⟨fun _ => ⟨rfl, (x4.set _ (Or.inl (by omega))).set _ (Or.inr (by omega)), ?_⟩, fun z => absurd rfl z⟩, fz⟩
        · rw [en224]
          clear x1 x2 x3 x4 y1 y2 y3 y4 y5 y6 hfail
          simp (disch := omega) only [r224_0, r224_1, r224_4, r224_5, r224_8, r224_9, r224_10, r224_11, r224_14, r224_15, r224_16, r224_17, r224_18, r224_19, r224_20, r224_23, r224_24, r224_27, r224_28, r224_29, r224_32, r224_33, r224_36, r224_37, r224_38, r224_41, r224_43, r224_46, r224_47, r224_48, r224_51, r224_52, r224_55, r224_57, r224_58, r224_61, r224_62, r224_65, r224_66, r224_67, r224_70, r224_72, r224_73, r224_74, r224_77, r224_78, r224_79, r224_80, r224_81, r224_82, r224_85, r224_86, r224_89, r224_92, r224_93, r224_94, r224_97, r224_98, r224_99, r224_102, r224_103, c1, c2, c3, c4, e2, e3, e4, z6, w1, w2, w3, w4, l2, mset_at, imul_eq, iadd_eq, Int.add_zero, Int.reduceAdd, ↓if_pos, ↓if_neg, Option.bind_some, pushR_s, pushR_n]
        · have j4 : ∀ i, J4 85 i = if i = 9 + 3 * g.nW + 1 then v2 else if i = 9 + 3 * g.nW then v1 else I 85 i := fun i => by
            rw [f4 _ _ (by omega) (by omega), mset_at]
            by_cases q1 : i = 9 + 3 * g.nW + 1
            · rw [if_pos ⟨rfl, q1⟩, if_pos q1]
            · rw [if_neg (fun z => q1 z.2), if_neg q1, f3 _ _ (by omega) (by omega), mset_at]
              by_cases q2 : i = 9 + 3 * g.nW
              · rw [if_pos ⟨rfl, q2⟩, if_pos q2]
              · rw [if_neg (fun z => q2 z.2), if_neg q2, fa2 _ _ (by omega) (by omega)]
          have z7 : (mset (mset J4 85 (9 + 3 * g.nW + 2) v3) 70 26 (g.nW + 1)) 70 27 = I 70 27 := by
            rw [mset_at, if_neg (by omega), mset_at, if_neg (by omega), f4 _ _ (by omega) (by omega), mset_at, if_neg (by omega), f3 _ _ (by omega) (by omega), mset_at, if_neg (by omega), fa2 _ _ (by omega) (by omega)]
          have hf : ∀ i, NDF (mset (mset J4 85 (9 + 3 * g.nW + 2) v3) 70 26 (g.nW + 1)) i = if i = 67 then g.nW + 1 else if i = 9 + 3 * g.nW + 2 then v3 else if i = 9 + 3 * g.nW + 1 then v2 else if i = 9 + 3 * g.nW then v1 else NDF I i := fun i => by
            unfold NDF
            rw [z7]
            by_cases q1 : i = 67
            · rw [if_pos q1, if_pos q1, mset_at, if_pos ⟨rfl, rfl⟩]
            · rw [if_neg q1, if_neg q1, if_neg q1]
              by_cases q2 : i = 68
              · rw [if_pos q2, if_neg (by omega), if_neg (by omega), if_neg (by omega), if_pos q2]
              · rw [if_neg q2, if_neg q2, mset_at, if_neg (by omega), mset_at]
                by_cases q3 : i = 9 + 3 * g.nW + 2
                · rw [if_pos ⟨rfl, q3⟩, if_pos q3]
                · rw [if_neg (fun z => q3 z.2), if_neg q3, j4]
          have en : (addW g v1 v3).nW = g.nW + 1 := by simp [addW, G.nW]
          have ew : ∀ i, (addW g v1 v3).wt i = if i = g.nW then v1 else g.wt i := fun i => by simp [addW, G.wt]
          have ee : ∀ i, (addW g v1 v3).gl i = if i = g.nW then v3 else g.gl i := fun i => by simp [addW, G.gl]
          have el : (addW g v1 v3).last = g.last := rfl
          have eb : (addW g v1 v3).nB = g.nB := rfl
          have hB2 := hg.nB2
          obtain ⟨⟨⟨a1, a2, a3⟩, a4, a5, a6⟩, b1, b2⟩ := hN
          refine ⟨⟨⟨?_, ?_, ?_⟩, fun p p0 p1 => ?_, fun w w0 w1 => ?_, fun b e0 e1 => ?_⟩, fun w w0 w1 => ?_, fun b e0 e1 => ?_⟩
          · rw [hf, if_neg (by omega), if_neg (by omega), if_neg (by omega), if_neg (by omega)]; exact a1
          · rw [hf, if_pos rfl, en]
          · rw [hf, if_neg (by omega), if_neg (by omega), if_neg (by omega), if_neg (by omega)]; exact a3
          · have p2 : p ≤ g.last := p1
            rw [hf, if_neg (by omega), if_neg (by omega), if_neg (by omega), if_neg (by omega)]; exact a4 p p0 p1
          · rw [en] at w1
            rw [hf, hf, ew, ee]
            by_cases q : w = g.nW
            · refine ⟨?_, ?_⟩ <;> simp (disch := omega) only [↓if_pos, ↓if_neg]
            · simp (disch := omega) only [↓if_pos, ↓if_neg]; exact a5 w w0 (by omega)
          · have e2 : b < g.nB := e1
            rw [hf, hf, hf]
            simp (disch := omega) only [↓if_pos, ↓if_neg]; exact a6 b e0 e1
          · rw [en] at w1
            rw [hf, wAt_setW ⟨hn3.1, hw3⟩ ⟨w0, by omega⟩ ⟨hv2.1, by omega⟩]
            by_cases q : w = g.nW
            · rw [if_neg (by omega), if_neg (by omega), if_pos (by omega), if_pos q]
            · rw [if_neg (by omega), if_neg (by omega), if_neg (by omega), if_neg (by omega), if_neg q]; exact b1 w w0 (by omega)
          · have e2 : b < g.nB := e1
            rw [hf, bAt_setW ⟨hn3.1, hw3⟩ ⟨e0, by omega⟩ ⟨hv2.1, by omega⟩]
            rw [if_neg (by omega), if_neg (by omega), if_neg (by omega), if_neg (by omega)]; exact b2 b e0 e1
      · rw [nS_n h3]
        refine ⟨0, mset (mset (mset J3 85 (9 + 3 * g.nW + 1) v2) 85 (9 + 3 * g.nW + 2) (J3 70 28)) 70 26 (g.nW + 1), ?_, hfail _ _ _ rfl (Int.le_trans hk3.1 hs3.1) ?_, ?_⟩
        · rw [en224]
          have y6' := y6 h3
          clear x1 x2 x3 y1 y2 y3 y4 y5 y6 hfail
          simp (disch := omega) only [r224_0, r224_1, r224_4, r224_5, r224_8, r224_9, r224_10, r224_11, r224_14, r224_15, r224_16, r224_17, r224_18, r224_19, r224_20, r224_23, r224_24, r224_27, r224_28, r224_29, r224_32, r224_33, r224_36, r224_37, r224_38, r224_41, r224_43, r224_46, r224_47, r224_48, r224_51, r224_52, r224_55, r224_57, r224_58, r224_61, r224_62, r224_65, r224_66, r224_67, r224_70, r224_72, r224_73, r224_74, r224_77, r224_78, r224_79, r224_80, r224_81, r224_82, r224_85, r224_86, r224_89, r224_92, r224_93, r224_94, r224_97, r224_98, r224_99, r224_102, r224_103, c1, c2, c3, y6', e2, e3, z6, w1, w2, w3, l2, mset_at, imul_eq, iadd_eq, Int.add_zero, Int.reduceAdd, ↓if_pos, ↓if_neg, Option.bind_some, pushR_s, pushR_n]
        · exact ((x3.set _ (Or.inl (by omega))).set _ (Or.inl (by omega))).set _ (Or.inr (by omega)) |>.at
        · exact (((fa2.N.trans (FrN.set _ (Or.inl rfl))).trans f3.N).trans (FrN.set _ (Or.inl rfl))).trans ((FrN.set _ (Or.inl rfl)).trans (FrN.set _ (Or.inr (by omega))))
    · rw [nS_n h2, nS_br (by show sk t (tE t (tE t k)) ≠ -1; omega)]
      refine ⟨0, mset (mset (mset J2 85 (9 + 3 * g.nW) v1) 85 (9 + 3 * g.nW + 1) (J2 70 28)) 70 26 (g.nW + 1), ?_, hfail _ _ _ rfl (Int.le_trans hk2.1 hs2.1) ?_, ?_⟩
      · rw [en224]
        have y4' := y4 h2
        clear x1 x2 y1 y2 y3 y4 hfail
        simp (disch := omega) only [r224_0, r224_1, r224_4, r224_5, r224_8, r224_9, r224_10, r224_11, r224_14, r224_15, r224_16, r224_17, r224_18, r224_19, r224_20, r224_23, r224_24, r224_27, r224_28, r224_29, r224_32, r224_33, r224_36, r224_37, r224_38, r224_41, r224_43, r224_46, r224_47, r224_48, r224_51, r224_52, r224_55, r224_57, r224_58, r224_61, r224_62, r224_65, r224_66, r224_67, r224_70, r224_72, r224_73, r224_74, r224_77, r224_78, r224_79, r224_80, r224_81, r224_82, r224_85, r224_86, r224_89, r224_92, r224_93, r224_94, r224_97, r224_98, r224_99, r224_102, r224_103, c1, c2, y4', e2, z6, w1, w2, l2, mset_at, imul_eq, iadd_eq, Int.add_zero, Int.reduceAdd, ↓if_pos, ↓if_neg, Option.bind_some, pushR_s, pushR_n]
      · exact ((x2.set _ (Or.inl (by omega))).set _ (Or.inl (by omega))).set _ (Or.inr (by omega)) |>.at
      · exact (fa2.N.trans (FrN.set _ (Or.inl rfl))).trans ((FrN.set _ (Or.inl rfl)).trans (FrN.set _ (Or.inr (by omega))))
  · rw [nS_n h1, nS_br (q := (tE t (tE t k), sk t (tE t k))) (by show sk t (tE t k) ≠ -1; omega), nS_br (q := (tE t (tE t k), sk t (tE t k))) (by show sk t (tE t k) ≠ -1; omega)]
    refine ⟨0, mset (mset J1 85 (9 + 3 * g.nW) (J1 70 28)) 70 26 (g.nW + 1), ?_, hfail _ _ _ rfl (Int.le_trans hk1.1 hs1.1) ?_, ?_⟩
    · rw [en224]
      have y2' := y2 h1
      clear x1 y1 y2 hfail
      simp (disch := omega) only [r224_0, r224_1, r224_4, r224_5, r224_8, r224_9, r224_10, r224_11, r224_14, r224_15, r224_16, r224_17, r224_18, r224_19, r224_20, r224_23, r224_24, r224_27, r224_28, r224_29, r224_32, r224_33, r224_36, r224_37, r224_38, r224_41, r224_43, r224_46, r224_47, r224_48, r224_51, r224_52, r224_55, r224_57, r224_58, r224_61, r224_62, r224_65, r224_66, r224_67, r224_70, r224_72, r224_73, r224_74, r224_77, r224_78, r224_79, r224_80, r224_81, r224_82, r224_85, r224_86, r224_89, r224_92, r224_93, r224_94, r224_97, r224_98, r224_99, r224_102, r224_103, c1, y2', z6, w1, mset_at, imul_eq, iadd_eq, Int.add_zero, Int.reduceAdd, ↓if_pos, ↓if_neg, Option.bind_some, pushR_s, pushR_n]
    · exact (x1.set _ (Or.inl (by omega))).set _ (Or.inr (by omega)) |>.at
    · exact fm1.N.trans ((FrN.set _ (Or.inl rfl)).trans (FrN.set _ (Or.inr (by omega))))
end
