/-! The rule of the model: worked down, what stands, digits. -/
section
variable {d : Nat} {I J K : MM} {r : Int → Int} {c i k x a b n o v l s y1 y2 : Int} {V S V1 S1 : List Int}
theorem wO_some {V V1 : List Int} (h : wO s V = some V1) : ∃ y2 y1 W, V = y2 :: y1 :: W ∧ V1 = jn s y1 y2 :: W := by
  match V, h with
  | y2 :: y1 :: W, h => exact ⟨y2, y1, W, rfl, (Option.some.inj h).symm⟩
theorem m_downL (l : Int) : ∀ (S V : List Int) (V1 S1 : List Int) (J : MM), wD l S V = some (V1, S1) → V.length ≤ 50 → S.length ≤ 100 → TQ r J a b V S → ∃ K, runs (call (d + 1)) 241 0 [vR 70, vI l] [] J = some (none, K) ∧ TQ r K a b V1 S1 ∧ FrT J K := by
  intro S
  induction S with
  | nil =>
    intro V V1 S1 J hw hV hS hQ
    have e34 : J 70 34 = 0 := hQ.2.2.2.2.1
    cases hw
    refine ⟨J, ?_, hQ, FrT.refl⟩
    clear hQ
    simp (disch := omega) only [r241_0, r241_1, r241_4, r241_7, r241_8, r241_11, r241_12, r241_15, r241_16, r241_17, r241_18, r241_21, r241_24, r241_25, r241_28, r241_29, r241_32, r241_33, r241_34, r241_35, r241_38, r241_39, r241_42, r241_43, r241_46, r241_49, ↓if_pos, ↓if_neg, e34]
  | cons s S ih =>
    intro V V1 S1 J hw hV hS hQ
    have e34 : J 70 34 = (S.length : Int) + 1 := by rw [hQ.2.2.2.2.1]; simp
    have es : J 87 S.length = s := hQ.2.2.2.2.2.1
    have n1 : (S.length : Int) + 1 - 1 = S.length := by omega
    simp only [List.length_cons] at hS
    have hr := m_rank (d := d) (I := J) (c := s)
    rw [wD] at hw
    by_cases h : s < 1000 ∧ l ≤ rk s
    · rw [if_pos h] at hw
      cases hV1 : wO s V with
      | none => rw [hV1] at hw; cases hw
      | some V2 =>
        rw [hV1] at hw
        obtain ⟨y2, y1, W, rfl, rfl⟩ := wO_some hV1
        simp only [List.length_cons] at hV
        obtain ⟨J1, c1, q1, f1⟩ := m_workOut (d := d) hQ (by omega) (by omega)
        obtain ⟨K, c2, q2, f2⟩ := ih _ V1 S1 J1 hw (by simp only [List.length_cons]; omega) (by omega) q1
        refine ⟨K, ?_, q2, f1.trans f2⟩
        rw [← c2, r241_0]
        clear hQ q1 q2 ih hw hV1 c2
        simp (disch := omega) only [r241_1, r241_4, r241_7, r241_8, r241_11, r241_12, r241_15, r241_16, r241_17, r241_18, r241_21, r241_24, r241_25, r241_28, r241_29, r241_32, r241_33, r241_34, r241_35, r241_38, r241_39, r241_42, r241_43, r241_46, r241_49, ↓if_pos, ↓if_neg, e34, es, isub_eq, n1, hr, c1, Option.bind_some, pushR_s, pushR_n]
    · rw [if_neg h] at hw
      cases hw
      refine ⟨J, ?_, hQ, FrT.refl⟩
      clear hQ ih
      by_cases h2 : s < 1000
      · simp (disch := omega) only [r241_0, r241_1, r241_4, r241_7, r241_8, r241_11, r241_12, r241_15, r241_16, r241_17, r241_18, r241_21, r241_24, r241_25, r241_28, r241_29, r241_32, r241_33, r241_34, r241_35, r241_38, r241_39, r241_42, r241_43, r241_46, r241_49, ↓if_pos, ↓if_neg, e34, es, isub_eq, n1, hr, Option.bind_some, pushR_s]
      · simp (disch := omega) only [r241_0, r241_1, r241_4, r241_7, r241_8, r241_11, r241_12, r241_15, r241_16, r241_17, r241_18, r241_21, r241_24, r241_25, r241_28, r241_29, r241_32, r241_33, r241_34, r241_35, r241_38, r241_39, r241_42, r241_43, r241_46, r241_49, ↓if_pos, ↓if_neg, e34, es, isub_eq, n1]
theorem m_workDown (hw : wD l S V = some (V1, S1)) (hV : V.length ≤ 50) (hS : S.length ≤ 100) (hQ : TQ r I a b V S) : ∃ K, call (d + 2) 241 [vR 70, vI l] I = some (none, K) ∧ TQ r K a b V1 S1 ∧ FrT I K := by
  rw [en241]; exact m_downL (d := d) l S V V1 S1 I hw hV hS hQ
theorem m_standsL (x1 : Int) : ∀ (S : List Int) (v : Int) (J : MM), S.length ≤ 100 → V.length ≤ 50 → TQ r J a b V S → ∃ K, runs (call d) 242 2 [vR 70, vL x1, vR 0, vL v, vR 0] [] J = some (none, K) ∧ TQ r K a b ((stU S v).1 :: V) (stU S v).2 ∧ FrT J K := by
  intro S
  induction S with
  | nil =>
    intro v J hS hV hQ
    have e34 : J 70 34 = 0 := hQ.2.2.2.2.1
    have e32 : J 70 32 = V.length := hQ.2.2.2.1.1
    refine ⟨_, ?_, hQ.pushV (v := v), (FrT.set _ (by omega)).trans (FrT.set _ (by omega))⟩
    clear hQ
    simp (disch := omega) only [r242_0, r242_1, r242_2, r242_3, r242_6, r242_9, r242_10, r242_13, r242_14, r242_17, r242_18, r242_19, r242_20, r242_23, r242_26, r242_27, r242_30, r242_31, r242_34, r242_35, r242_36, r242_37, r242_40, r242_43, r242_44, r242_45, r242_46, r242_49, r242_50, r242_53, r242_54, r242_57, r242_58, r242_59, r242_60, r242_61, r242_62, r242_65, r242_66, r242_67, r242_70, r242_73, r242_74, r242_77, r242_78, r242_81, r242_82, r242_83, r242_84, r242_85, r242_88, r242_89, r242_90, r242_93, ↓if_pos, ↓if_neg, e34, e32, mset_at, iadd_eq]
  | cons s S ih =>
    intro v J hS hV hQ
    have e34 : J 70 34 = (S.length : Int) + 1 := by rw [hQ.2.2.2.2.1]; simp
    have es : J 87 S.length = s := hQ.2.2.2.2.2.1
    have e32 : J 70 32 = V.length := hQ.2.2.2.1.1
    have n1 : (S.length : Int) + 1 - 1 = S.length := by omega
    simp only [List.length_cons] at hS
    rw [stU]
    by_cases h : 1000 < s
    · rw [if_pos h]
      obtain ⟨K, c2, q2, f2⟩ := ih (un1 s v) _ (by omega) hV hQ.popS
      refine ⟨K, ?_, q2, (FrT.set _ (by omega)).trans f2⟩
      rw [← c2, r242_2]
      clear hQ q2 ih c2
      unfold un1
      by_cases h1 : s = 1001
      · by_cases hv : v = 0 <;> simp (disch := omega) only [r242_0, r242_1, r242_3, r242_6, r242_9, r242_10, r242_13, r242_14, r242_17, r242_18, r242_19, r242_20, r242_23, r242_26, r242_27, r242_30, r242_31, r242_34, r242_35, r242_36, r242_37, r242_40, r242_43, r242_44, r242_45, r242_46, r242_49, r242_50, r242_53, r242_54, r242_57, r242_58, r242_59, r242_60, r242_61, r242_62, r242_65, r242_66, r242_67, r242_70, r242_73, r242_74, r242_77, r242_78, r242_81, r242_82, r242_83, r242_84, r242_85, r242_88, r242_89, r242_90, r242_93, ↓if_pos, ↓if_neg, kill, e34, es, isub_eq, n1]
      · simp (disch := omega) only [r242_0, r242_1, r242_3, r242_6, r242_9, r242_10, r242_13, r242_14, r242_17, r242_18, r242_19, r242_20, r242_23, r242_26, r242_27, r242_30, r242_31, r242_34, r242_35, r242_36, r242_37, r242_40, r242_43, r242_44, r242_45, r242_46, r242_49, r242_50, r242_53, r242_54, r242_57, r242_58, r242_59, r242_60, r242_61, r242_62, r242_65, r242_66, r242_67, r242_70, r242_73, r242_74, r242_77, r242_78, r242_81, r242_82, r242_83, r242_84, r242_85, r242_88, r242_89, r242_90, r242_93, ↓if_pos, ↓if_neg, kill, e34, es, isub_eq, n1]
    · rw [if_neg h]
      refine ⟨_, ?_, hQ.pushV (v := v), (FrT.set _ (by omega)).trans (FrT.set _ (by omega))⟩
      clear hQ ih
      simp (disch := omega) only [r242_0, r242_1, r242_2, r242_3, r242_6, r242_9, r242_10, r242_13, r242_14, r242_17, r242_18, r242_19, r242_20, r242_23, r242_26, r242_27, r242_30, r242_31, r242_34, r242_35, r242_36, r242_37, r242_40, r242_43, r242_44, r242_45, r242_46, r242_49, r242_50, r242_53, r242_54, r242_57, r242_58, r242_59, r242_60, r242_61, r242_62, r242_65, r242_66, r242_67, r242_70, r242_73, r242_74, r242_77, r242_78, r242_81, r242_82, r242_83, r242_84, r242_85, r242_88, r242_89, r242_90, r242_93, ↓if_pos, ↓if_neg, e34, es, e32, isub_eq, n1, mset_at, iadd_eq]
theorem m_stands (hS : S.length ≤ 100) (hV : V.length ≤ 50) (hQ : TQ r I a b V S) : ∃ K, call (d + 1) 242 [vR 70, vL v] I = some (none, K) ∧ TQ r K a b ((stU S v).1 :: V) (stU S v).2 ∧ FrT I K := by
  obtain ⟨K, c1, q1, f1⟩ := m_standsL (d := d) v S v I hS hV hQ
  refine ⟨K, ?_, q1, f1⟩
  rw [← c1, en242]
  simp only [r242_0, r242_1, kill]
/-- digits: six at most, and what stands behind them is none -/
theorem m_digL (h : RB r) (hV : V.length ≤ 50) {fr : Int} (hfr : 0 ≤ fr) : ∀ (f : Nat) (a n : Int) (J : MM), a + f = fr + 6 → fr ≤ a → (0 ≤ a ∧ a ≤ r (-1)) → 0 ≤ n ∧ n ≤ bnd f → TQ r J a b V S → ∃ K, runs (call (d + 2)) 245 7 [vR 70, vI fr, vL n, vR 0] [] J = some (some (vL (if isF (chr r (dig r f a n).1) = true then 0 else (dig r f a n).2)), K) ∧ TQ r K (dig r f a n).1 (if isF (chr r (dig r f a n).1) = true then 10 * fr + 2 else b) V S ∧ FrT J K := by
  have h40 := h.1
  intro f
  induction f with
  | zero =>
    intro a n J hf hfa ha hn hQ
    have e29 : J 70 29 = a := hQ.2.1
    have e := m_textLong (d := d + 1) hQ.1
    rw [dig]
    by_cases hl : a < r (-1)
    · have hc := m_charAt (d := d + 1) hQ.1 h ⟨ha.1, hl⟩
      have hch : chr r a = r a := by unfold chr; rw [if_pos ⟨ha.1, hl⟩]
      have hfig := m_isFigure (d := d) (I := J) (c := r a)
      rw [hch]
      by_cases hd : isF (r a) = true
      · rw [if_pos hd, if_pos hd]
        rw [if_pos hd] at hfig
        refine ⟨mset J 70 30 (10 * fr + 2), ?_, hQ.setB, FrT.set _ (by omega)⟩
        clear hQ
        have e6 : a - fr = 6 := by omega
        simp (disch := omega) only [r245_0, r245_1, r245_4, r245_5, r245_6, r245_7, r245_8, r245_11, r245_12, r245_15, r245_18, r245_19, r245_20, r245_23, r245_26, r245_29, r245_32, r245_33, r245_36, r245_37, r245_38, r245_40, r245_43, r245_44, r245_46, r245_47, r245_48, r245_49, r245_50, r245_53, r245_54, r245_55, r245_58, r245_59, r245_60, r245_61, r245_62, r245_65, r245_68, r245_69, r245_70, r245_73, r245_74, r245_75, r245_76, r245_77, r245_80, r245_81, r245_82, r245_85, r245_88, r245_89, ↓if_pos, ↓if_neg, e29, e, hc, hfig, isub_eq, e6, imul_eq, iadd_eq, Option.bind_some, pushR_s]
      · rw [if_neg hd, if_neg hd]
        rw [if_neg hd] at hfig
        refine ⟨J, ?_, hQ, FrT.refl⟩
        clear hQ
        simp (disch := omega) only [r245_0, r245_1, r245_4, r245_5, r245_6, r245_7, r245_8, r245_11, r245_12, r245_15, r245_18, r245_19, r245_20, r245_23, r245_26, r245_29, r245_32, r245_33, r245_36, r245_37, r245_38, r245_40, r245_43, r245_44, r245_46, r245_47, r245_48, r245_49, r245_50, r245_53, r245_54, r245_55, r245_58, r245_59, r245_60, r245_61, r245_62, r245_65, r245_68, r245_69, r245_70, r245_73, r245_74, r245_75, r245_76, r245_77, r245_80, r245_81, r245_82, r245_85, r245_88, r245_89, ↓if_pos, ↓if_neg, e29, e, hc, hfig, Option.bind_some, pushR_s]
    · have hch : chr r a = -1 := by unfold chr; rw [if_neg (by omega)]
      rw [hch, if_neg (by decide), if_neg (by decide)]
      refine ⟨J, ?_, hQ, FrT.refl⟩
      clear hQ
      simp (disch := omega) only [r245_0, r245_1, r245_4, r245_5, r245_6, r245_7, r245_8, r245_11, r245_12, r245_15, r245_18, r245_19, r245_20, r245_23, r245_26, r245_29, r245_32, r245_33, r245_36, r245_37, r245_38, r245_40, r245_43, r245_44, r245_46, r245_47, r245_48, r245_49, r245_50, r245_53, r245_54, r245_55, r245_58, r245_59, r245_60, r245_61, r245_62, r245_65, r245_68, r245_69, r245_70, r245_73, r245_74, r245_75, r245_76, r245_77, r245_80, r245_81, r245_82, r245_85, r245_88, r245_89, ↓if_pos, ↓if_neg, e29, e, Option.bind_some, pushR_s]
  | succ f ih =>
    intro a n J hf hfa ha hn hQ
    have e29 : J 70 29 = a := hQ.2.1
    have e := m_textLong (d := d + 1) hQ.1
    have hbd : n ≤ 99999 ∧ (f ≤ 5 → 10 * n + 9 ≤ bnd f) := by
      by_cases hf6 : f ≤ 5
      · have : f = 0 ∨ f = 1 ∨ f = 2 ∨ f = 3 ∨ f = 4 ∨ f = 5 := by omega
        rcases this with rfl | rfl | rfl | rfl | rfl | rfl <;> simp only [bnd] at * <;> omega
      · refine ⟨?_, fun z => absurd z hf6⟩
        have : bnd (f + 1) = 0 := by
          match f, hf6 with
          | f + 6, _ => rfl
        omega
    rw [dig]
    by_cases hl : a < r (-1)
    · have hc := m_charAt (d := d + 1) hQ.1 h ⟨ha.1, hl⟩
      have hch : chr r a = r a := by unfold chr; rw [if_pos ⟨ha.1, hl⟩]
      have hfig := m_isFigure (d := d) (I := J) (c := r a)
      rw [hch]
      by_cases hd : isF (r a) = true
      · rw [if_pos hd]
        rw [if_pos hd] at hfig
        have h9 := isF_b hd
        by_cases hf6 : f ≤ 5
        · obtain ⟨K, c2, q2, f2⟩ := ih (a + 1) (10 * n + r a - 48) _ (by omega) (by omega) (by omega) ⟨by omega, by have := hbd.2 hf6; omega⟩ hQ.setA
          refine ⟨K, ?_, q2, (FrT.set _ (by omega)).trans f2⟩
          rw [← c2, r245_7]
          clear hQ q2 ih c2
          have m1 : lmul 10 n = 10 * n := lmul_eq (by omega)
          have m2 : ladd (10 * n) (r a) = 10 * n + r a := ladd_eq (by omega)
          have m3 : lsub (10 * n + r a) 48 = 10 * n + r a - 48 := lsub_eq (by omega)
          simp (disch := omega) only [r245_0, r245_1, r245_4, r245_5, r245_6, r245_8, r245_11, r245_12, r245_15, r245_18, r245_19, r245_20, r245_23, r245_26, r245_29, r245_32, r245_33, r245_36, r245_37, r245_38, r245_40, r245_43, r245_44, r245_46, r245_47, r245_48, r245_49, r245_50, r245_53, r245_54, r245_55, r245_58, r245_59, r245_60, r245_61, r245_62, r245_65, r245_68, r245_69, r245_70, r245_73, r245_74, r245_75, r245_76, r245_77, r245_80, r245_81, r245_82, r245_85, r245_88, r245_89, ↓if_pos, ↓if_neg, e29, e, hc, hfig, isub_eq, m1, m2, m3, iadd_eq, Option.bind_some, pushR_s]
        · exfalso; omega
      · rw [if_neg hd]
        simp only [hch]
        rw [if_neg hd, if_neg hd]
        rw [if_neg hd] at hfig
        refine ⟨J, ?_, hQ, FrT.refl⟩
        clear hQ ih
        simp (disch := omega) only [r245_0, r245_1, r245_4, r245_5, r245_6, r245_7, r245_8, r245_11, r245_12, r245_15, r245_18, r245_19, r245_20, r245_23, r245_26, r245_29, r245_32, r245_33, r245_36, r245_37, r245_38, r245_40, r245_43, r245_44, r245_46, r245_47, r245_48, r245_49, r245_50, r245_53, r245_54, r245_55, r245_58, r245_59, r245_60, r245_61, r245_62, r245_65, r245_68, r245_69, r245_70, r245_73, r245_74, r245_75, r245_76, r245_77, r245_80, r245_81, r245_82, r245_85, r245_88, r245_89, ↓if_pos, ↓if_neg, e29, e, hc, hfig, Option.bind_some, pushR_s]
    · have hch : chr r a = -1 := by unfold chr; rw [if_neg (by omega)]
      rw [hch, if_neg (show ¬ isF (-1) = true by decide)]
      simp only [hch]
      rw [if_neg (show ¬ isF (-1) = true by decide), if_neg (show ¬ isF (-1) = true by decide)]
      refine ⟨J, ?_, hQ, FrT.refl⟩
      clear hQ ih
      simp (disch := omega) only [r245_0, r245_1, r245_4, r245_5, r245_6, r245_7, r245_8, r245_11, r245_12, r245_15, r245_18, r245_19, r245_20, r245_23, r245_26, r245_29, r245_32, r245_33, r245_36, r245_37, r245_38, r245_40, r245_43, r245_44, r245_46, r245_47, r245_48, r245_49, r245_50, r245_53, r245_54, r245_55, r245_58, r245_59, r245_60, r245_61, r245_62, r245_65, r245_68, r245_69, r245_70, r245_73, r245_74, r245_75, r245_76, r245_77, r245_80, r245_81, r245_82, r245_85, r245_88, r245_89, ↓if_pos, ↓if_neg, e29, e, Option.bind_some, pushR_s]
theorem m_digits (h : RB r) (hV : V.length ≤ 50) (ha : 0 ≤ a ∧ a ≤ r (-1)) (hQ : TQ r I a b V S) : ∃ K, call (d + 3) 245 [vR 70] I = some (some (vL (if isF (chr r (dig r 6 a 0).1) = true then 0 else (dig r 6 a 0).2)), K) ∧ TQ r K (dig r 6 a 0).1 (if isF (chr r (dig r 6 a 0).1) = true then 10 * a + 2 else b) V S ∧ FrT I K := by
  obtain ⟨K, c1, q1, f1⟩ := m_digL (d := d) h hV ha.1 6 a 0 I (by omega) (Int.le_refl _) ha (by simp [bnd]) hQ
  have e29 : I 70 29 = a := hQ.2.1
  refine ⟨K, ?_, q1, f1⟩
  rw [← c1, en245]
  clear hQ q1 c1
  simp only [r245_0, r245_1, r245_4, r245_5, r245_6, r245_8, r245_11, r245_12, r245_15, r245_18, r245_19, r245_20, r245_23, r245_26, r245_29, r245_32, r245_33, r245_36, r245_37, r245_38, r245_40, r245_43, r245_44, r245_46, r245_47, r245_48, r245_49, r245_50, r245_53, r245_54, r245_55, r245_58, r245_59, r245_60, r245_61, r245_62, r245_65, r245_68, r245_69, r245_70, r245_73, r245_74, r245_75, r245_76, r245_77, r245_80, r245_81, r245_82, r245_85, r245_88, r245_89, e29]
end
