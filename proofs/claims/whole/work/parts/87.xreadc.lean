/-! read of the class. g0: what the draft held before (its absent entries stay as they were). -/
abbrev rdT (s : ST) (g0 : G) : (G × Int) × Int × Int := rdL (s 3 1) 201 0 (rstG g0 7) 0 0
def aRead (s : ST) (g0 : G) : Int := if (rdT s g0).2.1 < 0 then isub (-10) (rdT s g0).2.2 else if well (rdT s g0).1.1 (rdT s g0).1.2 then (rdT s g0).2.1 else -3
def takeD (s : ST) (D : G × Int) : ST := fun a b => if a = 0 then D.1 b else if a = 3 ∧ b = 0 then (fun _ => D.2) else if a = 3 ∧ b = 3 then (fun i => if i = -1 then 0 else s 3 3 i) else s a b
def sRead (s : ST) (g0 : G) : ST := if (rdT s g0).2.1 < 0 then s else if well (rdT s g0).1.1 (rdT s g0).1.2 then takeD s (rdT s g0).1 else bump s 1
section
variable {d : Nat} {I J K : MM} {s : ST} {g : G}
theorem x_copyB_2_10 : call (d + 1) 1 [vR 2, vR 10] I = some (none, memCB 2 10 I) := by
  rw [en1]
  simp (disch := omega) only [r1_0, r1_1, r1_2, r1_5, r1_8, r1_9, r1_10, r1_13, r1_16, r1_17, r1_18, r1_21, r1_24, r1_25, r1_26, r1_29, r1_32, r1_33, r1_34, r1_37, r1_40, r1_41, r1_44, r1_45, r1_46, r1_49, r1_50, r1_51, r1_54, r1_55, r1_58, r1_59, r1_60, r1_63, r1_64, r1_65, r1_68, r1_69, r1_72, r1_73, r1_74, r1_77, r1_78, r1_79, r1_82, r1_83, r1_86, r1_87, r1_88, r1_91, r1_92, r1_93, r1_96, r1_97, r1_100, r1_101, r1_102, r1_105, r1_106, r1_107, r1_110, r1_111, r1_114, r1_115, r1_116, r1_119, r1_120, r1_121, r1_124, r1_125, r1_128, r1_129, r1_130, r1_133, r1_134, r1_135, r1_138, ↓if_pos, ↓if_neg, mset_at]
  rfl
def QRead (I J : MM) : Prop := (SC0 J ∧ ∀ i, i ≠ 10 → J 27 i = I 27 i) ∨ (∀ a, a ≠ 1 → a ≠ 20 → ¬ (10 ≤ a ∧ a < 18) → ∀ i, J a i = I a i)
theorem X_read (hX : XR I s) (hO : OK s) : ∃ g0 : G, XQ (d + 8) 111 [] [1, 2, 3, 4, 5, 6, 7, 8, 9, 10, 11, 12, 13, 14, 15, 16, 17, 20, 25, 27, 32, 33] I (aRead s g0) (sRead s g0) (QRead I) := by
  have hn := hO.2.1
  have hA0 : At 10 I (gOf 10 I) := fun j i hj hr => by
    unfold gOf
    rw [if_neg]
    rintro ⟨rfl, rfl⟩
    simp [rng] at hr
  obtain ⟨J, c1, b1, e1, f1⟩ := x_readInto (d := d) hA0 hX.T hn
  obtain ⟨k1, k2⟩ := rdL_ok (t := s 3 1) 201 0 (rstG (gOf 10 I) 7) 0 0 (WG_rst (by omega)) (VN_rst (by omega)) (by omega)
  refine ⟨gOf 10 I, ?_⟩
  unfold aRead sRead
  rw [show rdL (s 3 1) 201 0 (rstG (gOf 10 I) 7) 0 0 = rdT s (gOf 10 I) from rfl] at *
  generalize rdT s (gOf 10 I) = r at *
  have hf : ∀ a, a ≠ 20 → ¬ (10 ≤ a ∧ a < 18) → ∀ i, J a i = I a i := fun a h1 h2 i => f1 a i (by omega) h2
  have hXJ : XR J s := ⟨hX.B.cong (fun a _ _ i => hf a (by omega) (by omega) i), hX.T.cong (hf _ (by omega) (by omega) _) (hf _ (by omega) (by omega)), hX.R.cong (hf _ (by omega) (by omega) _) (hf _ (by omega) (by omega)), hX.P.cong (hf _ (by omega) (by omega) _) (hf _ (by omega) (by omega)), hX.C.cong (fun i _ => hf _ (by omega) (by omega) i), hX.F.cong (hf _ (by omega) (by omega)) (hf _ (by omega) (by omega)) (hf _ (by omega) (by omega) _) (hf _ (by omega) (by omega) _), hX.I0.cong (fun a _ _ i => hf a (by omega) (by omega) i), hX.I1.cong (fun a _ _ i => hf a (by omega) (by omega) i), hX.K.cong (hf _ (by omega) (by omega)) (hf _ (by omega) (by omega))⟩
  by_cases h1 : r.2.1 < 0
  · rw [if_pos h1, if_pos h1]
    refine ⟨J, ?_, hXJ, fun a ha i => hf a (fun q => ha (by simp [q])) (fun q => ha (by simp; omega)) i, Or.inr (fun a _ a2 a3 i => hf a a2 a3 i)⟩
    rw [en111]
    simp (disch := omega) only [r111_0, r111_1, r111_4, r111_5, r111_8, r111_11, r111_12, r111_13, r111_16, r111_18, r111_19, r111_22, r111_25, r111_26, r111_27, r111_28, r111_31, r111_32, r111_35, r111_38, r111_41, r111_44, r111_45, r111_47, r111_49, r111_52, r111_53, r111_54, r111_57, r111_58, r111_61, r111_64, r111_65, r111_68, r111_69, r111_72, r111_73, r111_76, r111_79, r111_80, c1, e1, ↓if_pos, ↓if_neg, Option.bind_some, pushR_s]
  · rw [if_neg h1, if_neg h1]
    have hw := x_isWell' (d := d + 4) b1.1 k1 k2.1.1
    have n4 : J 10 4 = r.1.2 := b1.2
    by_cases h2 : well r.1.1 r.1.2
    · rw [if_pos h2] at hw
      rw [if_pos h2, if_pos h2]
      have hB2 := memCB_BX (a := 2) (b := 10) (I := J) (by omega) b1
      have ho : ∀ a, ¬ (2 ≤ a ∧ a < 10) → a ≠ 25 → a ≠ 27 → a ≠ 32 → a ≠ 33 → ∀ i, memF (mset (memCB 2 10 J) 25 1 0) a i = J a i := fun a q1 q2 q3 q4 q5 i => by
        rw [memF_o q3 q4 q5, mset_at, if_neg (by omega), memCB_o (by omega)]
      refine ⟨memF (mset (memCB 2 10 J) 25 1 0), ?_, ⟨?_, hXJ.T.cong (ho _ (by omega) (by omega) (by omega) (by omega) (by omega) _) (ho _ (by omega) (by omega) (by omega) (by omega) (by omega)), hXJ.R.cong (ho _ (by omega) (by omega) (by omega) (by omega) (by omega) _) (ho _ (by omega) (by omega) (by omega) (by omega) (by omega)), ?_, hXJ.C.cong (fun i _ => ho _ (by omega) (by omega) (by omega) (by omega) (by omega) i), hXJ.F.cong (ho _ (by omega) (by omega) (by omega) (by omega) (by omega)) (ho _ (by omega) (by omega) (by omega) (by omega) (by omega)) (ho _ (by omega) (by omega) (by omega) (by omega) (by omega) _) (ho _ (by omega) (by omega) (by omega) (by omega) (by omega) _), hXJ.I0.cong (fun a _ _ i => ho a (by omega) (by omega) (by omega) (by omega) (by omega) i), hXJ.I1.cong (fun a _ _ i => ho a (by omega) (by omega) (by omega) (by omega) (by omega) i), hXJ.K.cong (ho _ (by omega) (by omega) (by omega) (by omega) (by omega)) (ho _ (by omega) (by omega) (by omega) (by omega) (by omega))⟩, fun a ha i => ?_, Or.inl ⟨memF_SC0 _, fun i hi => ?_⟩⟩
      · rw [en111]
        simp (disch := omega) only [r111_0, r111_1, r111_4, r111_5, r111_8, r111_11, r111_12, r111_13, r111_16, r111_18, r111_19, r111_22, r111_25, r111_26, r111_27, r111_28, r111_31, r111_32, r111_35, r111_38, r111_41, r111_44, r111_45, r111_47, r111_49, r111_52, r111_53, r111_54, r111_57, r111_58, r111_61, r111_64, r111_65, r111_68, r111_69, r111_72, r111_73, r111_76, r111_79, r111_80, c1, n4, hw, x_copyB_2_10, x_forget, ↓if_pos, ↓if_neg, Option.bind_some, pushR_s, pushR_n]
      · exact BX.cong (I := memCB 2 10 J) (fun a _ _ i => by rw [memF_o (by omega) (by omega) (by omega), mset_at, if_neg (by omega)]) hB2
      · refine ⟨by rw [memF_o (by omega) (by omega) (by omega), mset_at, if_pos ⟨rfl, rfl⟩]; rfl, fun i i0 i1 => ?_⟩
        have : i < 0 := i1
        omega
      · simp at ha
        exact (ho a (by omega) (by omega) (by omega) (by omega) (by omega) i).trans (hf a (by omega) (by omega) i)
      · rw [memF_5 _ hi, mset_at, if_neg (by omega), memCB_o (by omega)]
        exact hf 27 (by omega) (by omega) i
    · rw [if_neg h2] at hw
      rw [if_neg h2, if_neg h2]
      refine ⟨xbump J 1, ?_, hXJ.bump (by omega), fun a ha i => (xbump_o (fun q => ha (by simp [q])) i).trans (hf a (fun q => ha (by simp [q])) (fun q => ha (by simp; omega)) i), Or.inr (fun a a1 a2 a3 i => (xbump_o a1 i).trans (hf a a2 a3 i))⟩
      rw [en111]
      simp (disch := omega) only [r111_0, r111_1, r111_4, r111_5, r111_8, r111_11, r111_12, r111_13, r111_16, r111_18, r111_19, r111_22, r111_25, r111_26, r111_27, r111_28, r111_31, r111_32, r111_35, r111_38, r111_41, r111_44, r111_45, r111_47, r111_49, r111_52, r111_53, r111_54, r111_57, r111_58, r111_61, r111_64, r111_65, r111_68, r111_69, r111_72, r111_73, r111_76, r111_79, r111_80, c1, n4, hw, x_no, ↓if_pos, ↓if_neg, Option.bind_some, pushR_s]
end
