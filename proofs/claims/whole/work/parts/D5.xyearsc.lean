/-! years of the class, as a call. -/
section
variable {d : Nat} {I J K : MM} {n w k : Int} {s : ST}
theorem X_years (hX : XR I s) (hO : OK s) (hC : RCh I (s 3 2)) : XQ (d + 69) 129 [vI n, vI w, vI k] [1, 21, 23, 24, 34, 35, 36, 37, 38, 39] I (aYears n w k) (sYears s n w k) (fun J => RCh J (s 3 2)) := by
  unfold aYears sYears
  by_cases h : kYears n w k
  · rw [if_pos h, if_pos h]
    obtain ⟨hn, hw, hk⟩ := h
    obtain ⟨J, c1, m1, m2, m3, f1, hJ⟩ := x_runS' (d := d) (n := 40) hX hO hC (by omega)
    have hXJ := hX.P34 f1
    have hwet : 0 ≤ wetS s w ∧ wetS s w ≤ 10 := by unfold wetS; split <;> omega
    obtain ⟨K, c2, q2, f2⟩ := x_chance (d := d + 64) (I := J) (w := wetS s w) (k := k) (n := n.toNat) (by omega) hwet
    have en : ((n.toNat : Nat) : Int) = n := by omega
    rw [en] at c2
    have hf : ∀ a, (a < 36 ∨ 39 < a) → ∀ i, K a i = J a i := fun a ha i => f2 a i (by omega) (by omega) (by omega) (by omega)
    refine ⟨K, ?_, ⟨hXJ.B.cong (fun a _ _ i => hf a (by omega) i), hXJ.T.cong (hf _ (by omega) _) (hf _ (by omega)), hXJ.R.cong (hf _ (by omega) _) (hf _ (by omega)), hXJ.P.cong (hf _ (by omega) _) (hf _ (by omega)), hXJ.C.cong (fun i _ => hf _ (by omega) i), q2, hXJ.I0.cong (fun a _ _ i => hf a (by omega) i), hXJ.I1.cong (fun a _ _ i => hf a (by omega) i), hXJ.K.cong (hf _ (by omega)) (hf _ (by omega))⟩, fun a ha i => ?_, ?_⟩
    · rw [en129]
      clear q2 hJ hXJ
      unfold wetS at c2
      by_cases hl : (mrS s 40).2.1 = -1
      · rw [if_pos hl] at c2
        rw [hl] at m2
        simp (disch := omega) only [r129_0, r129_1, r129_2, r129_5, r129_6, r129_8, r129_11, r129_12, r129_15, r129_16, r129_18, r129_21, r129_22, r129_25, r129_26, r129_27, r129_30, r129_31, r129_33, r129_35, r129_38, r129_39, r129_40, r129_43, r129_44, r129_47, r129_48, r129_51, r129_53, r129_56, r129_57, r129_60, r129_61, r129_62, r129_65, r129_68, r129_69, r129_72, r129_73, r129_76, r129_77, r129_78, r129_81, r129_82, ↓if_pos, ↓if_neg, c1, m2, c2, Option.bind_some, pushR_n]
      · rw [if_neg hl] at c2
        rw [← m2] at hl
        simp (disch := first | omega | exact hl) only [r129_0, r129_1, r129_2, r129_5, r129_6, r129_8, r129_11, r129_12, r129_15, r129_16, r129_18, r129_21, r129_22, r129_25, r129_26, r129_27, r129_30, r129_31, r129_33, r129_35, r129_38, r129_39, r129_40, r129_43, r129_44, r129_47, r129_48, r129_51, r129_53, r129_56, r129_57, r129_60, r129_61, r129_62, r129_65, r129_68, r129_69, r129_72, r129_73, r129_76, r129_77, r129_78, r129_81, r129_82, ↓if_pos, ↓if_neg, c1, c2, Option.bind_some, pushR_n]
    · rw [hf a (by simp at ha; omega) i]
      exact f1.out a (fun q => ha (by simp at q ⊢; omega)) i
    · rcases hJ with q | ⟨q1, q3⟩
      · exact Or.inl ((hf _ (by omega) _).trans q)
      · exact Or.inr ⟨(hf _ (by omega) _).trans q1, q3.cong (hf _ (by omega) _) (hf _ (by omega) _) (hf _ (by omega))⟩
  · rw [if_neg h, if_neg h]
    have hC1 : RCh (xbump I 0) (s 3 2) := by
      have e : ∀ a, a ≠ 1 → ∀ i, (xbump I 0) a i = I a i := fun a ha i => xbump_o ha i
      rcases hC with q | ⟨q1, q2⟩
      · exact Or.inl ((e _ (by omega) _).trans q)
      · exact Or.inr ⟨(e _ (by omega) _).trans q1, q2.cong (e _ (by omega) _) (e _ (by omega) _) (fun i => e _ (by omega) _)⟩
    refine ⟨xbump I 0, ?_, hX.bump (by omega), fun a ha i => xbump_o (fun q => ha (by simp [q])) i, hC1⟩
    rw [en129]
    clear hC1 hC
    by_cases q0 : n < 1
    · simp (disch := omega) only [r129_0, r129_1, r129_2, r129_5, r129_6, r129_8, r129_11, r129_12, r129_15, r129_16, r129_18, r129_21, r129_22, r129_25, r129_26, r129_27, r129_30, r129_31, r129_33, r129_35, r129_38, r129_39, r129_40, r129_43, r129_44, r129_47, r129_48, r129_51, r129_53, r129_56, r129_57, r129_60, r129_61, r129_62, r129_65, r129_68, r129_69, r129_72, r129_73, r129_76, r129_77, r129_78, r129_81, r129_82, ↓if_pos, ↓if_neg, x_bad, Option.bind_some, pushR_s]
    by_cases q1 : 20 < n
    · simp (disch := omega) only [r129_0, r129_1, r129_2, r129_5, r129_6, r129_8, r129_11, r129_12, r129_15, r129_16, r129_18, r129_21, r129_22, r129_25, r129_26, r129_27, r129_30, r129_31, r129_33, r129_35, r129_38, r129_39, r129_40, r129_43, r129_44, r129_47, r129_48, r129_51, r129_53, r129_56, r129_57, r129_60, r129_61, r129_62, r129_65, r129_68, r129_69, r129_72, r129_73, r129_76, r129_77, r129_78, r129_81, r129_82, ↓if_pos, ↓if_neg, x_bad, Option.bind_some, pushR_s]
    by_cases q2 : w < 0
    · simp (disch := omega) only [r129_0, r129_1, r129_2, r129_5, r129_6, r129_8, r129_11, r129_12, r129_15, r129_16, r129_18, r129_21, r129_22, r129_25, r129_26, r129_27, r129_30, r129_31, r129_33, r129_35, r129_38, r129_39, r129_40, r129_43, r129_44, r129_47, r129_48, r129_51, r129_53, r129_56, r129_57, r129_60, r129_61, r129_62, r129_65, r129_68, r129_69, r129_72, r129_73, r129_76, r129_77, r129_78, r129_81, r129_82, ↓if_pos, ↓if_neg, x_bad, Option.bind_some, pushR_s]
    by_cases q3 : 10 < w
    · simp (disch := omega) only [r129_0, r129_1, r129_2, r129_5, r129_6, r129_8, r129_11, r129_12, r129_15, r129_16, r129_18, r129_21, r129_22, r129_25, r129_26, r129_27, r129_30, r129_31, r129_33, r129_35, r129_38, r129_39, r129_40, r129_43, r129_44, r129_47, r129_48, r129_51, r129_53, r129_56, r129_57, r129_60, r129_61, r129_62, r129_65, r129_68, r129_69, r129_72, r129_73, r129_76, r129_77, r129_78, r129_81, r129_82, ↓if_pos, ↓if_neg, x_bad, Option.bind_some, pushR_s]
    by_cases q4 : k < 0
    · simp (disch := omega) only [r129_0, r129_1, r129_2, r129_5, r129_6, r129_8, r129_11, r129_12, r129_15, r129_16, r129_18, r129_21, r129_22, r129_25, r129_26, r129_27, r129_30, r129_31, r129_33, r129_35, r129_38, r129_39, r129_40, r129_43, r129_44, r129_47, r129_48, r129_51, r129_53, r129_56, r129_57, r129_60, r129_61, r129_62, r129_65, r129_68, r129_69, r129_72, r129_73, r129_76, r129_77, r129_78, r129_81, r129_82, ↓if_pos, ↓if_neg, x_bad, Option.bind_some, pushR_s]
    · simp (disch := omega) only [r129_0, r129_1, r129_2, r129_5, r129_6, r129_8, r129_11, r129_12, r129_15, r129_16, r129_18, r129_21, r129_22, r129_25, r129_26, r129_27, r129_30, r129_31, r129_33, r129_35, r129_38, r129_39, r129_40, r129_43, r129_44, r129_47, r129_48, r129_51, r129_53, r129_56, r129_57, r129_60, r129_61, r129_62, r129_65, r129_68, r129_69, r129_72, r129_73, r129_76, r129_77, r129_78, r129_81, r129_82, ↓if_pos, ↓if_neg, x_bad, Option.bind_some, pushR_s]
theorem OK.years (hO : OK s) : OK (sYears s n w k) := by
  unfold sYears
  split
  · rename_i h
    obtain ⟨hn, hw, hk⟩ := h
    have hwet : 0 ≤ wetS s w ∧ wetS s w ≤ 10 := by unfold wetS; split <;> omega
    obtain ⟨b1, b2⟩ := chn_b (n := n.toNat) (w := wetS s w) (k := k) (by omega) hwet
    exact ⟨hO.1, hO.2.1, b1, b2, hO.2.2.2.2.1, hO.2.2.2.2.2⟩
  · exact hO.bump 0
end
