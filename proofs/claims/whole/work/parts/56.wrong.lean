/-! wrong, in both. -/
def wr (g : G) (c i : Int) : Nat → Int → Int → Int
  | 0, _, f => if i = -1 then f else -5
  | n + 1, a, f => if outc g c a = -3 then (if f = i then a else wr g c i n (a + 1) (f + 1)) else wr g c i n (a + 1) f
def aWrong (s : ST) (i : Int) : Int := if i < -1 then -10 else wr (gg s) (cd s) i 1024 0 0
def sWrong (s : ST) (i : Int) : ST := if i < -1 then bump s 0 else s
section
variable {d : Nat} {I J K : MM} {s : ST} {g : G} {a c w x y b p v i m f : Int}
theorem xw_loop (hX : XR I s) (hO : OK s) : ∀ (n : Nat) (a f : Int), a + n = 1024 → 0 ≤ a → (0 ≤ f ∧ f ≤ a) → runs (call (d + 4)) 124 18 [vR 1, vI i, vI f, vI a] [] I = some (some (vI (wr (gg s) (cd s) i n a f)), I) := by
  intro n
  induction n with
  | zero =>
    intro a f ha a0 hf
    by_cases h : i = -1
    · rw [wr, if_pos h]; simp (disch := omega) only [r124_0, r124_1, r124_2, r124_5, r124_6, r124_8, r124_10, r124_13, r124_14, r124_15, r124_16, r124_17, r124_18, r124_19, r124_22, r124_25, r124_26, r124_29, r124_30, r124_33, r124_36, r124_37, r124_40, r124_42, r124_45, r124_46, r124_47, r124_50, r124_51, r124_52, r124_55, r124_58, r124_61, r124_62, r124_63, r124_66, r124_67, r124_70, r124_72, ↓if_pos, ↓if_neg]
    · rw [wr, if_neg h]; simp (disch := omega) only [r124_0, r124_1, r124_2, r124_5, r124_6, r124_8, r124_10, r124_13, r124_14, r124_15, r124_16, r124_17, r124_18, r124_19, r124_22, r124_25, r124_26, r124_29, r124_30, r124_33, r124_36, r124_37, r124_40, r124_42, r124_45, r124_46, r124_47, r124_50, r124_51, r124_52, r124_55, r124_58, r124_61, r124_62, r124_63, r124_66, r124_67, r124_70, r124_72, ↓if_pos, ↓if_neg]
  | succ n ih =>
    intro a f ha a0 hf
    push_cast at ha
    rw [r124_18]
    by_cases h : outc (gg s) (cd s) a = -3
    · rw [wr, if_pos h]
      by_cases h2 : f = i
      · rw [if_pos h2]
        simp (disch := omega) only [r124_0, r124_1, r124_2, r124_5, r124_6, r124_8, r124_10, r124_13, r124_14, r124_15, r124_16, r124_17, r124_19, r124_22, r124_25, r124_26, r124_29, r124_30, r124_33, r124_36, r124_37, r124_40, r124_42, r124_45, r124_46, r124_47, r124_50, r124_51, r124_52, r124_55, r124_58, r124_61, r124_62, r124_63, r124_66, r124_67, r124_70, r124_72, ↓if_pos, ↓if_neg, hX.n, x_outcome hX.A hO.W hO.V.c, Option.bind_some, pushR_s]
      · rw [if_neg h2, ← ih (a + 1) (f + 1) (by omega) (by omega) (by omega)]
        simp (disch := omega) only [r124_0, r124_1, r124_2, r124_5, r124_6, r124_8, r124_10, r124_13, r124_14, r124_15, r124_16, r124_17, r124_19, r124_22, r124_25, r124_26, r124_29, r124_30, r124_33, r124_36, r124_37, r124_40, r124_42, r124_45, r124_46, r124_47, r124_50, r124_51, r124_52, r124_55, r124_58, r124_61, r124_62, r124_63, r124_66, r124_67, r124_70, r124_72, ↓if_pos, ↓if_neg, hX.n, x_outcome hX.A hO.W hO.V.c, iadd_eq, Option.bind_some, pushR_s]
    · rw [wr, if_neg h, ← ih (a + 1) f (by omega) (by omega) (by omega)]
      simp (disch := omega) only [r124_0, r124_1, r124_2, r124_5, r124_6, r124_8, r124_10, r124_13, r124_14, r124_15, r124_16, r124_17, r124_19, r124_22, r124_25, r124_26, r124_29, r124_30, r124_33, r124_36, r124_37, r124_40, r124_42, r124_45, r124_46, r124_47, r124_50, r124_51, r124_52, r124_55, r124_58, r124_61, r124_62, r124_63, r124_66, r124_67, r124_70, r124_72, ↓if_pos, ↓if_neg, hX.n, x_outcome hX.A hO.W hO.V.c, iadd_eq, Option.bind_some, pushR_s]
theorem X_wrong (hX : XR I s) (hO : OK s) : XA (d + 5) 124 [vI i] [1] I (aWrong s i) (sWrong s i) := by
  unfold aWrong sWrong
  by_cases h : i < -1
  · rw [if_pos h, if_pos h]; refine XA.bump hX (by omega) ?_
    rw [en124]; simp (disch := omega) only [r124_0, r124_1, r124_2, r124_5, r124_6, r124_8, r124_10, r124_13, r124_14, r124_15, r124_16, r124_17, r124_18, r124_19, r124_22, r124_25, r124_26, r124_29, r124_30, r124_33, r124_36, r124_37, r124_40, r124_42, r124_45, r124_46, r124_47, r124_50, r124_51, r124_52, r124_55, r124_58, r124_61, r124_62, r124_63, r124_66, r124_67, r124_70, r124_72, ↓if_pos, ↓if_neg, x_bad, Option.bind_some, pushR_s]
  · rw [if_neg h, if_neg h]; refine XA.same hX ?_
    rw [en124, ← xw_loop (d := d) (i := i) hX hO 1024 0 0 (by omega) (by omega) (by omega)]
    simp (disch := omega) only [r124_0, r124_1, r124_2, r124_5, r124_6, r124_8, r124_10, r124_13, r124_14, r124_15, r124_16, r124_17, r124_19, r124_22, r124_25, r124_26, r124_29, r124_30, r124_33, r124_36, r124_37, r124_40, r124_42, r124_45, r124_46, r124_47, r124_50, r124_51, r124_52, r124_55, r124_58, r124_61, r124_62, r124_63, r124_66, r124_67, r124_70, r124_72, ↓if_pos, ↓if_neg]
theorem mw_loop (hO : OK s) : ∀ (n : Nat) (a f : Int) (I : MM), MR I s → a + n = 1024 → 0 ≤ a → (0 ≤ f ∧ f ≤ a) → ∃ J, runs (call (d + 8)) 198 16 [vR 70, vI i, vI f, vI a] [] I = some (some (vI (wr (gg s) (cd s) i n a f)), J) ∧ MR J s ∧ OUT MC I J := by
  intro n
  induction n with
  | zero =>
    intro a f I hM ha a0 hf
    refine ⟨I, ?_, hM, OUT.refl _ _⟩
    by_cases h : i = -1
    · rw [wr, if_pos h]; simp (disch := omega) only [r198_0, r198_1, r198_2, r198_5, r198_6, r198_8, r198_11, r198_12, r198_13, r198_14, r198_15, r198_16, r198_17, r198_20, r198_23, r198_24, r198_25, r198_28, r198_29, r198_32, r198_33, r198_34, r198_37, r198_38, r198_39, r198_42, r198_45, r198_48, r198_49, r198_50, r198_53, r198_54, r198_57, r198_59, ↓if_pos, ↓if_neg]
    · rw [wr, if_neg h]; simp (disch := omega) only [r198_0, r198_1, r198_2, r198_5, r198_6, r198_8, r198_11, r198_12, r198_13, r198_14, r198_15, r198_16, r198_17, r198_20, r198_23, r198_24, r198_25, r198_28, r198_29, r198_32, r198_33, r198_34, r198_37, r198_38, r198_39, r198_42, r198_45, r198_48, r198_49, r198_50, r198_53, r198_54, r198_57, r198_59, ↓if_pos, ↓if_neg]
  | succ n ih =>
    intro a f I hM ha a0 hf
    push_cast at ha
    obtain ⟨J, h1, f8, -⟩ := m_whyNow (d := d) (a := a) hM.R hM.S hO.W hO.V
    have hJ := hM.fr8 hO f8
    have e : why (gg s) (cd s) a = outc (gg s) (cd s) a := by rw [why, if_pos (by omega)]
    rw [e] at h1
    have hlo := outc_lo (a := a) hO.W hO.V
    have hr : rso (outc (gg s) (cd s) a) = 3 ↔ outc (gg s) (cd s) a = -3 := by unfold rso; split <;> omega
    by_cases h : outc (gg s) (cd s) a = -3
    · have h3 := hr.mpr h
      rw [wr, if_pos h]
      by_cases h2 : f = i
      · rw [if_pos h2]
        refine ⟨J, ?_, hJ, f8.out⟩
        simp (disch := omega) only [r198_0, r198_1, r198_2, r198_5, r198_6, r198_8, r198_11, r198_12, r198_13, r198_14, r198_15, r198_16, r198_17, r198_20, r198_23, r198_24, r198_25, r198_28, r198_29, r198_32, r198_33, r198_34, r198_37, r198_38, r198_39, r198_42, r198_45, r198_48, r198_49, r198_50, r198_53, r198_54, r198_57, r198_59, ↓if_pos, ↓if_neg, h1, Option.bind_some, pushR_s]
      · rw [if_neg h2]
        obtain ⟨K, k1, k2, k3⟩ := ih (a + 1) (f + 1) J hJ (by omega) (by omega) (by omega)
        refine ⟨K, Eq.trans ?_ k1, k2, f8.out.trans k3⟩
        rw [r198_16]
        simp (disch := omega) only [r198_0, r198_1, r198_2, r198_5, r198_6, r198_8, r198_11, r198_12, r198_13, r198_14, r198_15, r198_17, r198_20, r198_23, r198_24, r198_25, r198_28, r198_29, r198_32, r198_33, r198_34, r198_37, r198_38, r198_39, r198_42, r198_45, r198_48, r198_49, r198_50, r198_53, r198_54, r198_57, r198_59, ↓if_pos, ↓if_neg, h1, iadd_eq, Option.bind_some, pushR_s]
    · have h3 : ¬ rso (outc (gg s) (cd s) a) = 3 := fun q => h (hr.mp q)
      rw [wr, if_neg h]
      obtain ⟨K, k1, k2, k3⟩ := ih (a + 1) f J hJ (by omega) (by omega) (by omega)
      refine ⟨K, Eq.trans ?_ k1, k2, f8.out.trans k3⟩
      rw [r198_16]
      simp (disch := omega) only [r198_0, r198_1, r198_2, r198_5, r198_6, r198_8, r198_11, r198_12, r198_13, r198_14, r198_15, r198_17, r198_20, r198_23, r198_24, r198_25, r198_28, r198_29, r198_32, r198_33, r198_34, r198_37, r198_38, r198_39, r198_42, r198_45, r198_48, r198_49, r198_50, r198_53, r198_54, r198_57, r198_59, ↓if_pos, ↓if_neg, h1, iadd_eq, Option.bind_some, pushR_s]
theorem M_wrong (hM : MR I s) (hO : OK s) : MA (d + 9) 198 [vI i] I (aWrong s i) (sWrong s i) := by
  unfold aWrong sWrong
  by_cases h : i < -1
  · rw [if_pos h, if_pos h]; refine MA.bump hO hM (by omega) ?_
    rw [en198]; simp (disch := omega) only [r198_0, r198_1, r198_2, r198_5, r198_6, r198_8, r198_11, r198_12, r198_13, r198_14, r198_15, r198_16, r198_17, r198_20, r198_23, r198_24, r198_25, r198_28, r198_29, r198_32, r198_33, r198_34, r198_37, r198_38, r198_39, r198_42, r198_45, r198_48, r198_49, r198_50, r198_53, r198_54, r198_57, r198_59, ↓if_pos, ↓if_neg, m_bad, Option.bind_some, pushR_s]
  · rw [if_neg h, if_neg h]
    obtain ⟨J, k1, k2, k3⟩ := mw_loop (d := d) (i := i) hO 1024 0 0 I hM (by omega) (by omega) (by omega)
    refine ⟨J, ?_, k2, k3⟩
    rw [en198, ← k1]
    simp (disch := omega) only [r198_0, r198_1, r198_2, r198_5, r198_6, r198_8, r198_11, r198_12, r198_13, r198_14, r198_15, r198_17, r198_20, r198_23, r198_24, r198_25, r198_28, r198_29, r198_32, r198_33, r198_34, r198_37, r198_38, r198_39, r198_42, r198_45, r198_48, r198_49, r198_50, r198_53, r198_54, r198_57, r198_59, ↓if_pos, ↓if_neg]
end
