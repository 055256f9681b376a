/-! The reader of the class: a whole text. -/
def rdL (t : Int → Int) : Nat → Int → G → Int → Int → (G × Int) × Int × Int
  | 0, _, g, c, _ => ((g, c), -1, -1)
  | f + 1, n, g, c, k => if 0 < n ∧ tkK t (t (-1)) (sk t k) = 0 then ((g, c), n, -1) else if (sS t (readI t g c (decide (n = 0)) k).2).2 = -1 then rdL t f (n + 1) (readI t g c (decide (n = 0)) k).1.1 (readI t g c (decide (n = 0)) k).1.2 (sS t (readI t g c (decide (n = 0)) k).2).1 else ((readI t g c (decide (n = 0)) k).1, -1, (sS t (readI t g c (decide (n = 0)) k).2).2)
section
variable {d : Nat} {I J K : MM} {t : Int → Int}
theorem x_into (hn : 0 ≤ t (-1) ∧ t (-1) ≤ 200) : ∀ (f : Nat) (n : Int) (g : G) (c k : Int) (I : MM), 0 ≤ n → n + f = 201 → BX 10 I g c → DW (g, c) → RSx I t (k, -1) → 0 ≤ k ∧ k ≤ t (-1) → ∃ J, runs (call (d + 6)) 98 18 [vR 20, vR 10, vI n] [] I = some (some (vI (rdL t f n g c k).2.1), J) ∧ BX 10 J (rdL t f n g c k).1.1 (rdL t f n g c k).1.2 ∧ J 20 5 = (rdL t f n g c k).2.2 ∧ FrX I J := by
  intro f
  induction f with
  | zero =>
    intro n g c k I n0 hf hB hD hR hk
    refine ⟨I, ?_, hB, hR.2.1, fun _ _ _ _ => rfl⟩
    simp (disch := omega) only [r98_0, r98_1, r98_2, r98_5, r98_6, r98_7, r98_10, r98_11, r98_13, r98_16, r98_17, r98_18, r98_19, r98_22, r98_25, r98_26, r98_29, r98_30, r98_33, r98_36, r98_37, r98_40, r98_41, r98_42, r98_43, r98_44, r98_45, r98_48, r98_49, r98_52, r98_53, r98_56, r98_57, r98_60, r98_61, r98_64, r98_65, r98_68, r98_69, r98_70, r98_73, r98_76, r98_77, ↓if_pos, ↓if_neg, rdL]
  | succ f ih =>
    intro n g c k I n0 hf hB hD hR hk
    obtain ⟨h1, h5, hT⟩ := hR
    obtain ⟨J1, c1, x1, f1⟩ := x_nextToken (d := d + 3) hT hn h1 hk
    have fr1 : FrR I J1 := fun a i h => f1 a i (by omega)
    have h51 : J1 20 5 = -1 := (f1 20 5 (by omega)).trans h5
    have b1 := fr1.B hB
    have t1 := fr1.T hT
    have j2 := x1.2.1
    obtain ⟨J2, c2, b2, r2, f2⟩ := x_readItem (d := d) b1 hD.1 hD.2 hk t1 x1 h51 hn (decide (n = 0))
    obtain ⟨hD2, hs2⟩ := readI_ok (first := decide (n = 0)) hD hk
    obtain ⟨J3, c3, r3, f3⟩ := x_stop (d := d + 2) hs2 r2 hn
    have hs3 := sS_b hs2
    rw [rdL]
    generalize readI t g c (decide (n = 0)) k = r at *
    generalize sS t r.2 = q at *
    have b3 := f3.B b2
    have fa : FrX I J3 := (fr1.X.trans f2).trans f3.X
    obtain ⟨e1, e5, e6⟩ := r3
    clear x1
    by_cases hend : 0 < n ∧ tkK t (t (-1)) (sk t k) = 0
    · rw [if_pos hend]
      obtain ⟨z1, z2⟩ := hend
      refine ⟨J1, ?_, b1, h51, fr1.X⟩
      simp (disch := omega) only [r98_0, r98_1, r98_2, r98_5, r98_6, r98_7, r98_10, r98_11, r98_13, r98_16, r98_17, r98_18, r98_19, r98_22, r98_25, r98_26, r98_29, r98_30, r98_33, r98_36, r98_37, r98_40, r98_41, r98_42, r98_43, r98_44, r98_45, r98_48, r98_49, r98_52, r98_53, r98_56, r98_57, r98_60, r98_61, r98_64, r98_65, r98_68, r98_69, r98_70, r98_73, r98_76, r98_77, c1, j2, z2, ↓if_pos, ↓if_neg, Option.bind_some, pushR_n]
    · rw [if_neg hend]
      have hgo : runs (call (d + 6)) 98 18 [vR 20, vR 10, vI n] [] I = runs (call (d + 6)) 98 60 [vR 20, vR 10, vI n] [] J3 := by
        by_cases hz : n = 0
        · rw [if_pos (decide_eq_true hz)] at c2
          subst hz
          clear hend
          by_cases h0 : tkK t (t (-1)) (sk t k) = 0
          · simp (disch := omega) only [r98_0, r98_1, r98_2, r98_5, r98_6, r98_7, r98_10, r98_11, r98_13, r98_16, r98_17, r98_18, r98_19, r98_22, r98_25, r98_26, r98_29, r98_30, r98_33, r98_36, r98_37, r98_40, r98_41, r98_42, r98_43, r98_44, r98_45, r98_48, r98_49, r98_52, r98_53, r98_56, r98_57, r98_61, r98_64, r98_65, r98_68, r98_69, r98_70, r98_73, r98_76, r98_77, c1, c2, c3, j2, h0, ↓if_pos, ↓if_neg, Option.bind_some, pushR_n]
          · simp (disch := omega) only [r98_0, r98_1, r98_2, r98_5, r98_6, r98_7, r98_10, r98_11, r98_13, r98_16, r98_17, r98_18, r98_19, r98_22, r98_25, r98_26, r98_29, r98_30, r98_33, r98_36, r98_37, r98_40, r98_41, r98_42, r98_43, r98_44, r98_45, r98_48, r98_49, r98_52, r98_53, r98_56, r98_57, r98_61, r98_64, r98_65, r98_68, r98_69, r98_70, r98_73, r98_76, r98_77, c1, c2, c3, j2, ↓if_pos, ↓if_neg, Option.bind_some, pushR_n]
        · have hzf : ¬ decide (n = 0) = true := fun y => hz (of_decide_eq_true y)
          rw [if_neg hzf] at c2
          have h0 : ¬ tkK t (t (-1)) (sk t k) = 0 := fun y => hend ⟨by omega, y⟩
          clear hend hzf
          simp (disch := omega) only [r98_0, r98_1, r98_2, r98_5, r98_6, r98_7, r98_10, r98_11, r98_13, r98_16, r98_17, r98_18, r98_19, r98_22, r98_25, r98_26, r98_29, r98_30, r98_33, r98_36, r98_37, r98_40, r98_41, r98_42, r98_43, r98_44, r98_45, r98_48, r98_49, r98_52, r98_53, r98_56, r98_57, r98_61, r98_64, r98_65, r98_68, r98_69, r98_70, r98_73, r98_76, r98_77, c1, c2, c3, j2, ↓if_pos, ↓if_neg, Option.bind_some, pushR_n]
      rw [hgo]
      by_cases hb : q.2 = -1
      · rw [if_pos hb]
        have e5' : J3 20 5 = -1 := e5.trans hb
        obtain ⟨J4, c4, b4, e4, f4⟩ := ih (n + 1) r.1.1 r.1.2 q.1 J3 (by omega) (by omega) b3 hD2 ⟨e1, e5', e6⟩ hs3.1
        refine ⟨J4, ?_, b4, e4, fa.trans f4⟩
        rw [← c4]
        simp (disch := omega) only [r98_0, r98_1, r98_2, r98_5, r98_6, r98_7, r98_10, r98_11, r98_13, r98_16, r98_17, r98_19, r98_22, r98_25, r98_26, r98_29, r98_30, r98_33, r98_36, r98_37, r98_40, r98_41, r98_42, r98_43, r98_44, r98_45, r98_48, r98_49, r98_52, r98_53, r98_56, r98_57, r98_60, r98_61, r98_64, r98_65, r98_68, r98_69, r98_70, r98_73, r98_76, r98_77, ↓if_pos, ↓if_neg, iadd_eq]
      · rw [if_neg hb]
        have e5' : ¬ J3 20 5 = -1 := fun y => hb (e5.symm.trans y)
        refine ⟨J3, ?_, b3, e5, fa⟩
        simp (disch := omega) only [r98_0, r98_1, r98_2, r98_5, r98_6, r98_7, r98_10, r98_11, r98_13, r98_16, r98_17, r98_19, r98_22, r98_25, r98_26, r98_29, r98_30, r98_33, r98_36, r98_37, r98_40, r98_41, r98_42, r98_43, r98_44, r98_45, r98_48, r98_49, r98_52, r98_53, r98_56, r98_57, r98_60, r98_61, r98_64, r98_65, r98_68, r98_69, r98_70, r98_73, r98_76, r98_77, ↓if_pos, ↓if_neg]
end
