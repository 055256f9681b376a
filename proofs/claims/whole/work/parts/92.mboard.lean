/-! The reader of the model: a board. -/
section
variable {d : Nat} {I J K : MM} {t : Int → Int} {k lo hi v l p b w e : Int} {g : G} {c : Int} {q : SG}
theorem fit_iff (hg : WG g) (hn : g.nB < 2) (hp : 0 ≤ p ∧ p ≤ g.last) (hl : 1 ≤ l ∧ l ≤ 3) : fitB g c k l p = true ↔ p + (l + lng k) - 1 ≤ g.last ∧ ¬ (0 < g.nB ∧ p ≤ lie (bAt c 0) + g.sp 0 - 1 ∧ lie (bAt c 0) ≤ p + (l + lng k) - 1) := by
  have hla := hg.last7
  have hlb := lng_b (k := k)
  have hb := bAt_b c 0
  constructor
  · intro hf
    obtain ⟨f1, f2⟩ := fit_no hg hp hl hf
    refine ⟨f1, fun z => ?_⟩
    obtain ⟨z1, z2, z3⟩ := z
    have z4 : bAt c 0 < 8 := by unfold lie at z3; split at z3 <;> omega
    rw [lie_n z4] at z2 z3
    rcases Int.le_total p (bAt c 0) with y3 | y3
    · exact f2 (bAt c 0) y3 (by omega) (Or.inl ⟨z1, z4, Int.le_refl _, by have := hlb0 hg (by have := hg.nB2; omega); omega⟩)
    · exact f2 p (Int.le_refl _) (by omega) (Or.inl ⟨z1, z4, y3, by omega⟩)
  · rintro ⟨f1, f2⟩
    refine decide_eq_true ⟨f1, ?_⟩
    have hlt := mskN_lt (s := l + lng k) (p := p) (by omega) (by omega)
    refine (and_0 (by omega)).mpr fun i h1 h2 => ?_
    rw [mskN_bit] at h1
    have h3 := of_decide_eq_true h1
    rw [show i = ((i : Int)).toNat by simp] at h2
    have h4 := (brdN_bit (p := (i : Int)) (by omega)).mp h2
    rcases h4 with ⟨a1, a2, a3, a4⟩ | ⟨a1, -⟩
    · exact f2 ⟨a1, by rw [lie_n a2]; omega, by rw [lie_n a2]; omega⟩
    · omega
theorem m_meets (hn : 0 ≤ I 70 27 ∧ I 70 27 < 2) (h2 : 0 ≤ I 85 19 ∧ I 85 19 ≤ 10) (hp : 0 ≤ p ∧ p ≤ 7) (hw : 1 ≤ w ∧ w ≤ 4) (h3 : 0 < I 70 27 → 0 ≤ I 85 21 ∧ I 85 21 ≤ 15) : call (d + 2) 226 [vR 70, vI p, vI w] I = some (some (vI (if 0 < I 70 27 ∧ p ≤ I 85 21 + (I 85 19 + (if I 85 18 = 2 ∨ I 85 18 = 4 then 1 else 0)) - 1 ∧ I 85 21 ≤ p + w - 1 then 1 else 0)), I) := by
  rw [en226]
  have hL := fun (x : Int) => m_longOf (d := d) (I := I) (x := x) (y := I 85 19) (by omega)
  have hb : ∀ x : Int, 0 ≤ (if x = 2 ∨ x = 4 then (1 : Int) else 0) ∧ (if x = 2 ∨ x = 4 then (1 : Int) else 0) ≤ 1 := fun x => by split <;> omega
  have hz := hb (I 85 18)
  simp (disch := omega) only [r226_0, r226_1, r226_4, r226_6, r226_7, r226_8, r226_9, r226_10, r226_13, r226_15, r226_16, r226_17, r226_20, r226_22, r226_23, r226_26, r226_27, r226_28, r226_29, r226_31, r226_32, r226_38, r226_39, r226_41, r226_44, r226_45, r226_46, r226_47, r226_48, r226_49, r226_50, r226_53, r226_54, r226_57, r226_58, ↓if_pos, hL, Option.bind_some, pushR_s]
  generalize (if I 85 18 = 2 ∨ I 85 18 = 4 then (1 : Int) else 0) = z at *
  clear hL hb
  by_cases h0 : 0 < I 70 27
  · have h3' := h3 h0
    clear h3
    by_cases q1 : p ≤ I 85 21 + (I 85 19 + z) - 1
    · by_cases q2 : I 85 21 ≤ p + w - 1 <;> simp (disch := omega) only [r226_0, r226_1, r226_4, r226_6, r226_7, r226_8, r226_9, r226_10, r226_13, r226_15, r226_16, r226_17, r226_20, r226_22, r226_23, r226_26, r226_27, r226_28, r226_29, r226_31, r226_32, r226_35, r226_38, r226_39, r226_41, r226_44, r226_45, r226_46, r226_47, r226_48, r226_49, r226_50, r226_53, r226_54, r226_57, r226_58, iadd_eq, isub_eq, ↓if_pos, ↓if_neg]
    · simp (disch := omega) only [r226_0, r226_1, r226_4, r226_6, r226_7, r226_8, r226_9, r226_10, r226_13, r226_15, r226_16, r226_17, r226_20, r226_22, r226_23, r226_26, r226_27, r226_28, r226_29, r226_31, r226_32, r226_35, r226_38, r226_39, r226_41, r226_44, r226_45, r226_46, r226_47, r226_48, r226_49, r226_50, r226_53, r226_54, r226_57, r226_58, iadd_eq, isub_eq, ↓if_pos, ↓if_neg]
  · simp (disch := omega) only [r226_0, r226_1, r226_4, r226_6, r226_7, r226_8, r226_9, r226_10, r226_13, r226_15, r226_16, r226_17, r226_20, r226_22, r226_23, r226_26, r226_27, r226_28, r226_29, r226_31, r226_32, r226_35, r226_38, r226_39, r226_41, r226_44, r226_45, r226_46, r226_47, r226_48, r226_49, r226_50, r226_53, r226_54, r226_57, r226_58, ↓if_pos, ↓if_neg]
end
