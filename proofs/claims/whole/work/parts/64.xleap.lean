/-! The class's search for the fewest leaps. -/
theorem flF_true {g : G} : ∀ (n k p : Nat) (Q : List QE), k ≤ p → p < k + n → p < Q.length → overs g (qc Q p) → flF g n k Q = true := by
  intro n
  induction n with
  | zero => intro k p Q h1 h2; omega
  | succ n ih =>
    intro k p Q h1 h2 h3 h4
    rw [flF, if_pos (by omega)]
    split
    · rfl
    · rename_i hn
      rcases Nat.lt_or_ge k p with h6 | h6
      · obtain ⟨T, hT⟩ := ex_pre g k 1024 0 Q
        exact ih (k + 1) p _ (by omega) (by omega) (by rw [hT, List.length_append]; omega) (by rw [hT, qc_app h3]; exact h4)
      · have : k = p := by omega
        subst this
        exact (hn h4).elim
theorem flF_s (g : G) (n k : Nat) (Q : List QE) : flF g (n + 1) k Q = if k < Q.length then (if overs g (qc Q k) then true else flF g n (k + 1) (ex g k 1024 0 Q)) else false := rfl
theorem flQ_s (g : G) (n k : Nat) (Q : List QE) : flQ g (n + 1) k Q = if k < Q.length then flQ g n (k + 1) (ex g k 1024 0 Q) else Q := rfl
theorem fl_one {g : G} (hg : WG g) : ∀ (n k : Nat) (Q : List QE), QI g Q → 131073 ≤ k + n → flF g (n + 1) k Q = flF g n k Q ∧ flQ g (n + 1) k Q = flQ g n k Q := by
  intro n
  induction n with
  | zero =>
    intro k Q hI hk
    have := hI.len
    rw [flF, flQ, flF, flQ, if_neg (by omega), if_neg (by omega)]
    exact ⟨rfl, rfl⟩
  | succ n ih =>
    intro k Q hI hk
    rw [flF_s g (n + 1) k Q, flQ_s g (n + 1) k Q, flF_s g n k Q, flQ_s g n k Q]
    by_cases h : k < Q.length
    · have := ih (k + 1) _ (QI.ex hg 1024 0 Q hI h) (by omega)
      rw [if_pos h, if_pos h, if_pos h, if_pos h, this.1, this.2]
      exact ⟨rfl, rfl⟩
    · rw [if_neg h, if_neg h, if_neg h, if_neg h]
      exact ⟨rfl, rfl⟩
theorem fl_more {g : G} (hg : WG g) {k : Nat} {Q : List QE} (hI : QI g Q) (n : Nat) (hk : 131073 ≤ k + n) : ∀ m, flF g (n + m) k Q = flF g n k Q ∧ flQ g (n + m) k Q = flQ g n k Q := by
  intro m
  induction m with
  | zero => exact ⟨rfl, rfl⟩
  | succ m ih =>
    have := fl_one hg (n + m) k Q hI (by omega)
    rw [← Nat.add_assoc, this.1, this.2]; exact ih
theorem lex_pre (g : G) : ∀ (r j : Nat) (Q : List QE), ∃ T, lex g r j Q = Q ++ T := by
  intro r
  induction r with
  | zero => intro j Q; exact ⟨[], by simp [lex]⟩
  | succ r ih =>
    intro j Q
    obtain ⟨T1, h1⟩ := ex_pre g j 256 1024 Q
    obtain ⟨T2, h2⟩ := ih (j + 1) (ex g j 256 1024 Q)
    exact ⟨T1 ++ T2, by rw [lex, h2, h1, List.append_assoc]⟩
/-- a found one stands behind all that weren't over -/
theorem found_behind {g : G} {Q T Q' : List QE} {e : QE} (hN : NO g Q) (h : Q ++ T = Q' ++ [e]) (ho : overs g e.1) : Q.length ≤ Q'.length := by
  rcases Nat.lt_or_ge Q'.length Q.length with h1 | h1
  · exfalso
    have h2 := hN Q'.length h1
    have h3 : qc (Q ++ T) Q'.length = e.1 := by rw [h, qc, nth_last]
    rw [qc_app h1] at h3
    rw [h3] at h2; exact h2 ho
  · exact h1
section
variable {d : Nat} {I J K : MM} {s : ST} {g : G} {a c w x y b p v i m f : Int} {Q : List QE}
theorem flood_loop {L ly : Int} (v6 : AV) (hg : WG g) : ∀ (n k : Nat) (J : MM) (Q : List QE), k + n = 131073 → k ≤ Q.length → At 2 J g → AL J g 0 1024 → SQ J m Q → QI g Q → NO g Q → PQ Q → J 27 7 = 0 → ∃ K, GF J K ∧ ((runs (call (d + 5)) 90 38 [vR 27, vR 2, vI c, vI ly, vI L, vI k, v6] [] J = some (some (vI L), K) ∧ flF g n k Q = true ∧ ∃ Qf, SQ K m Qf) ∨ (runs (call (d + 5)) 90 38 [vR 27, vR 2, vI c, vI ly, vI L, vI k, v6] [] J = runs (call (d + 5)) 90 81 [vR 27, vR 2, vI c, vI ly, vI L, vI ((flQ g n k Q).length : Int), v6] [] K ∧ flF g n k Q = false ∧ SQ K m (flQ g n k Q) ∧ QI g (flQ g n k Q) ∧ NO g (flQ g n k Q) ∧ PQ (flQ g n k Q) ∧ k ≤ (flQ g n k Q).length)) := by
  intro n
  induction n with
  | zero =>
    intro k J Q hk hkl hA hL hS hI hN hP h7
    have := hI.len; omega
  | succ n ih =>
    intro k J Q hk hkl hA hL hS hI hN hP h7
    have hlen := hI.len
    have e6 := hS.n
    rw [flF, flQ]
    by_cases hkl2 : k < Q.length
    · rw [if_pos hkl2, if_neg (hN k hkl2), if_pos hkl2]
      have e29 := hS.2.2.1 k hkl2
      have hgo := x_goOn (d := d) hg (by omega) (by omega) (by omega) hA hL hS hI hN hP hkl2 (Or.inl h7)
      obtain ⟨K, gf, ⟨r1, r2, r3, r4, r5, r6⟩ | ⟨n1, Q', e, r1, r2, r3, r4, r5, r6, r7, r8, r9, r10, r11⟩⟩ := hgo
      · have hlx : k + 1 ≤ (ex g k 1024 0 Q).length := by
          obtain ⟨T, hT⟩ := ex_pre g k 1024 0 Q
          rw [hT, List.length_append]; omega
        obtain ⟨K2, gf2, hres⟩ := ih (k + 1) K (ex g k 1024 0 Q) (by omega) hlx (gf.At hA) (gf.AL hL) r2 r3 r4 r5 ((gf.2.1 7 (by omega) (by omega)).trans h7)
        have hrun : runs (call (d + 5)) 90 38 [vR 27, vR 2, vI c, vI ly, vI L, vI k, v6] [] J = runs (call (d + 5)) 90 38 [vR 27, vR 2, vI c, vI ly, vI L, vI ((k + 1 : Nat) : Int), v6] [] K := by
          rw [r90_38]
          push_cast
          simp (disch := omega) only [r90_0, r90_1, r90_2, r90_5, r90_6, r90_7, r90_10, r90_13, r90_14, r90_15, r90_16, r90_17, r90_18, r90_20, r90_22, r90_23, r90_26, r90_27, r90_28, r90_29, r90_32, r90_35, r90_36, r90_40, r90_41, r90_44, r90_47, r90_49, r90_50, r90_53, r90_54, r90_57, r90_58, r90_59, r90_60, r90_63, r90_65, r90_66, r90_69, r90_72, r90_74, r90_75, r90_78, r90_81, r90_83, r90_84, r90_87, r90_88, r90_91, r90_94, r90_95, r90_97, r90_98, r90_99, r90_102, r90_105, r90_108, r90_109, r90_111, r90_113, r90_115, r90_118, r90_120, r90_121, r90_124, r90_125, r90_128, r90_129, r90_130, r90_131, r90_134, r90_136, r90_137, r90_140, r90_143, r90_145, r90_146, r90_147, r90_148, r90_151, r90_154, r90_156, r90_157, r90_160, r90_163, r90_164, ↓if_pos, ↓if_neg, e6, e29, r1, iadd_eq, Option.bind_some, pushR_s]
        rw [hrun]
        refine ⟨K2, gf.trans gf2, ?_⟩
        rcases hres with h | ⟨h1, h2, h3, h4, h5, h6, h8⟩
        · exact Or.inl h
        · exact Or.inr ⟨h1, h2, h3, h4, h5, h6, by omega⟩
      · have hp : Q'.length < (Q' ++ [e]).length := by rw [List.length_append, List.length_singleton]; omega
        obtain ⟨T3, hT3⟩ := ex_pre g k n1 0 Q
        have hb := found_behind hN (hT3.symm.trans r3) r8
        obtain ⟨T, hT⟩ := ex_pre g k (1024 - n1) n1 (ex g k n1 0 Q)
        have hfull : ex g k 1024 0 Q = (Q' ++ [e]) ++ T := by
          have := ex_add g k n1 (1024 - n1) 0 Q
          rw [show n1 + (1024 - n1) = 1024 by omega, Int.zero_add, hT, r3] at this
          exact this
        have hlenf := r5.len
        rw [List.length_append, List.length_singleton] at hlenf
        have e1 : qc (Q' ++ [e]) Q'.length = e.1 := by rw [qc, nth_last]
        refine ⟨K, gf, Or.inl ⟨?_, ?_, _, r4⟩⟩
        · simp (disch := omega) only [r90_0, r90_1, r90_2, r90_5, r90_6, r90_7, r90_10, r90_13, r90_14, r90_15, r90_16, r90_17, r90_18, r90_20, r90_22, r90_23, r90_26, r90_27, r90_28, r90_29, r90_32, r90_35, r90_36, r90_38, r90_40, r90_41, r90_44, r90_47, r90_49, r90_50, r90_53, r90_54, r90_57, r90_58, r90_59, r90_60, r90_63, r90_65, r90_66, r90_69, r90_72, r90_74, r90_75, r90_78, r90_83, r90_84, r90_87, r90_88, r90_91, r90_94, r90_95, r90_97, r90_98, r90_99, r90_102, r90_105, r90_108, r90_109, r90_111, r90_113, r90_115, r90_118, r90_120, r90_121, r90_124, r90_125, r90_128, r90_129, r90_130, r90_131, r90_134, r90_136, r90_137, r90_140, r90_143, r90_145, r90_146, r90_147, r90_148, r90_151, r90_154, r90_156, r90_157, r90_160, r90_163, r90_164, ↓if_pos, ↓if_neg, e6, e29, r1, Option.bind_some, pushR_s]
        · refine flF_true n (k + 1) Q'.length _ (by omega) (by omega) (by rw [hfull, List.length_append]; omega) ?_
          rw [hfull, qc_app hp, e1]; exact r8
    · rw [if_neg hkl2, if_neg hkl2]
      have hkk : k = Q.length := by omega
      refine ⟨J, GF.refl J, Or.inr ⟨?_, rfl, hS, hI, hN, hP, hkl⟩⟩
      rw [← hkk]
      simp (disch := omega) only [r90_0, r90_1, r90_2, r90_5, r90_6, r90_7, r90_10, r90_13, r90_14, r90_15, r90_16, r90_17, r90_18, r90_20, r90_22, r90_23, r90_26, r90_27, r90_28, r90_29, r90_32, r90_35, r90_36, r90_38, r90_40, r90_41, r90_44, r90_47, r90_49, r90_50, r90_53, r90_54, r90_57, r90_58, r90_59, r90_60, r90_63, r90_65, r90_66, r90_69, r90_72, r90_74, r90_75, r90_78, r90_83, r90_84, r90_87, r90_88, r90_91, r90_94, r90_95, r90_97, r90_98, r90_99, r90_102, r90_105, r90_108, r90_109, r90_111, r90_113, r90_115, r90_118, r90_120, r90_121, r90_124, r90_125, r90_128, r90_129, r90_130, r90_131, r90_134, r90_136, r90_137, r90_140, r90_143, r90_145, r90_146, r90_147, r90_148, r90_151, r90_154, r90_156, r90_157, r90_160, r90_163, r90_164, ↓if_pos, ↓if_neg, e6]
theorem leap_loop {L ly : Int} {le : Nat} (hL4 : 0 ≤ L ∧ L ≤ 4) (hg : WG g) : ∀ (r j : Nat) (J : MM) (Q : List QE), j + r = le → le ≤ Q.length → At 2 J g → AL J g 1024 1280 → SQ J m Q → QI g Q → NO g Q → PQ Q → J 27 7 = 0 → ∃ K, GF J K ∧ ((runs (call (d + 5)) 90 111 [vR 27, vR 2, vI c, vI ly, vI L, vI le, vI j] [] J = some (some (vI (L + 1)), K) ∧ (∃ p, le ≤ p ∧ p < 131072 ∧ p < (lex g r j Q).length ∧ overs g (qc (lex g r j Q) p)) ∧ ∃ Qf, SQ K m Qf) ∨ (runs (call (d + 5)) 90 111 [vR 27, vR 2, vI c, vI ly, vI L, vI le, vI j] [] J = runs (call (d + 5)) 90 154 [vR 27, vR 2, vI c, vI ly, vI L, vI le, vI le] [] K ∧ SQ K m (lex g r j Q) ∧ QI g (lex g r j Q) ∧ NO g (lex g r j Q) ∧ PQ (lex g r j Q))) := by
  intro r
  induction r with
  | zero =>
    intro j J Q hj hle hA hL hS hI hN hP h7
    have : j = le := by omega
    subst this
    refine ⟨J, GF.refl J, Or.inr ⟨?_, hS, hI, hN, hP⟩⟩
    simp (disch := omega) only [r90_0, r90_1, r90_2, r90_5, r90_6, r90_7, r90_10, r90_13, r90_14, r90_15, r90_16, r90_17, r90_18, r90_20, r90_22, r90_23, r90_26, r90_27, r90_28, r90_29, r90_32, r90_35, r90_36, r90_38, r90_40, r90_41, r90_44, r90_47, r90_49, r90_50, r90_53, r90_54, r90_57, r90_58, r90_59, r90_60, r90_63, r90_65, r90_66, r90_69, r90_72, r90_74, r90_75, r90_78, r90_81, r90_83, r90_84, r90_87, r90_88, r90_91, r90_94, r90_95, r90_97, r90_98, r90_99, r90_102, r90_105, r90_108, r90_109, r90_111, r90_113, r90_115, r90_118, r90_120, r90_121, r90_124, r90_125, r90_128, r90_129, r90_130, r90_131, r90_134, r90_136, r90_137, r90_140, r90_143, r90_145, r90_146, r90_147, r90_148, r90_151, r90_156, r90_157, r90_160, r90_163, r90_164, ↓if_pos, ↓if_neg]
  | succ r ih =>
    intro j J Q hj hle hA hL hS hI hN hP h7
    have hlen := hI.len
    have hjl : j < Q.length := by omega
    have e29 := hS.2.2.1 j hjl
    rw [lex]
    have hgo := x_goOn (d := d) hg (by omega) (by omega) (by omega) hA hL hS hI hN hP hjl (Or.inl h7)
    obtain ⟨K, gf, ⟨r1, r2, r3, r4, r5, r6⟩ | ⟨n1, Q', e, r1, r2, r3, r4, r5, r6, r7, r8, r9, r10, r11⟩⟩ := hgo
    · have hlx : le ≤ (ex g j 256 1024 Q).length := by
        obtain ⟨T, hT⟩ := ex_pre g j 256 1024 Q
        rw [hT, List.length_append]; omega
      obtain ⟨K2, gf2, hres⟩ := ih (j + 1) K (ex g j 256 1024 Q) (by omega) hlx (gf.At hA) (gf.AL hL) r2 r3 r4 r5 ((gf.2.1 7 (by omega) (by omega)).trans h7)
      have hrun : runs (call (d + 5)) 90 111 [vR 27, vR 2, vI c, vI ly, vI L, vI le, vI j] [] J = runs (call (d + 5)) 90 111 [vR 27, vR 2, vI c, vI ly, vI L, vI le, vI ((j + 1 : Nat) : Int)] [] K := by
        rw [r90_111]
        push_cast
        simp (disch := omega) only [r90_0, r90_1, r90_2, r90_5, r90_6, r90_7, r90_10, r90_13, r90_14, r90_15, r90_16, r90_17, r90_18, r90_20, r90_22, r90_23, r90_26, r90_27, r90_28, r90_29, r90_32, r90_35, r90_36, r90_38, r90_40, r90_41, r90_44, r90_47, r90_49, r90_50, r90_53, r90_54, r90_57, r90_58, r90_59, r90_60, r90_63, r90_65, r90_66, r90_69, r90_72, r90_74, r90_75, r90_78, r90_81, r90_83, r90_84, r90_87, r90_88, r90_91, r90_94, r90_95, r90_97, r90_98, r90_99, r90_102, r90_105, r90_108, r90_109, r90_113, r90_115, r90_118, r90_120, r90_121, r90_124, r90_125, r90_128, r90_129, r90_130, r90_131, r90_134, r90_136, r90_137, r90_140, r90_143, r90_145, r90_146, r90_147, r90_148, r90_151, r90_154, r90_156, r90_157, r90_160, r90_163, r90_164, ↓if_pos, ↓if_neg, e29, r1, iadd_eq, Option.bind_some, pushR_s]
      rw [hrun]
      exact ⟨K2, gf.trans gf2, hres⟩
    · have hp : Q'.length < (Q' ++ [e]).length := by rw [List.length_append, List.length_singleton]; omega
      obtain ⟨T3, hT3⟩ := ex_pre g j n1 1024 Q
      have hb := found_behind hN (hT3.symm.trans r3) r8
      obtain ⟨T, hT⟩ := ex_pre g j (256 - n1) (1024 + n1) (ex g j n1 1024 Q)
      have hfull : ex g j 256 1024 Q = (Q' ++ [e]) ++ T := by
        have := ex_add g j n1 (256 - n1) 1024 Q
        have hn1 : n1 ≤ 256 := by have h5 : ((1280 : Int) - 1024).toNat = 256 := rfl; omega
        rw [show n1 + (256 - n1) = 256 by omega, hT, r3] at this
        exact this
      obtain ⟨T4, hT4⟩ := lex_pre g r (j + 1) (ex g j 256 1024 Q)
      have hlenf := r5.len
      rw [List.length_append, List.length_singleton] at hlenf
      have e1 : qc (Q' ++ [e]) Q'.length = e.1 := by rw [qc, nth_last]
      refine ⟨K, gf, Or.inl ⟨?_, ⟨Q'.length, by omega, by omega, ?_, ?_⟩, _, r4⟩⟩
      · simp (disch := omega) only [r90_0, r90_1, r90_2, r90_5, r90_6, r90_7, r90_10, r90_13, r90_14, r90_15, r90_16, r90_17, r90_18, r90_20, r90_22, r90_23, r90_26, r90_27, r90_28, r90_29, r90_32, r90_35, r90_36, r90_38, r90_40, r90_41, r90_44, r90_47, r90_49, r90_50, r90_53, r90_54, r90_57, r90_58, r90_59, r90_60, r90_63, r90_65, r90_66, r90_69, r90_72, r90_74, r90_75, r90_78, r90_81, r90_83, r90_84, r90_87, r90_88, r90_91, r90_94, r90_95, r90_97, r90_98, r90_99, r90_102, r90_105, r90_108, r90_109, r90_111, r90_113, r90_115, r90_118, r90_120, r90_121, r90_124, r90_125, r90_128, r90_129, r90_130, r90_131, r90_134, r90_136, r90_137, r90_140, r90_143, r90_145, r90_146, r90_147, r90_148, r90_151, r90_156, r90_157, r90_160, r90_163, r90_164, ↓if_pos, ↓if_neg, e29, r1, iadd_eq, Option.bind_some, pushR_s]
      · rw [hT4, hfull, List.length_append, List.length_append]; omega
      · rw [hT4, hfull, qc_app (by rw [List.length_append]; omega), qc_app hp, e1]; exact r8
theorem leaps_loop (hg : WG g) : ∀ (n : Nat) (L : Int) (k : Nat) (v5 v6 : AV) (J : MM) (Q : List QE), L + n = 4 → 0 ≤ L → k ≤ Q.length → At 2 J g → SQ J m Q → QI g Q → NO g Q → PQ Q → J 27 7 = 0 → ∃ K, SF J K ∧ runs (call (d + 5)) 90 20 [vR 27, vR 2, vI c, vI k, vI L, v5, v6] [] J = some (some (vI (leR g n L k Q)), K) ∧ ∃ Qf, SQ K m Qf := by
  intro n
  induction n with
  | zero =>
    intro L k v5 v6 J Q hL L0 hk hA hS hI hN hP h7
    have : L = 4 := by omega
    subst this
    refine ⟨J, SF.refl J, ?_, Q, hS⟩
    rw [leR]
    simp (disch := omega) only [r90_0, r90_1, r90_2, r90_5, r90_6, r90_7, r90_10, r90_13, r90_14, r90_15, r90_16, r90_17, r90_18, r90_20, r90_22, r90_23, r90_26, r90_27, r90_28, r90_29, r90_32, r90_35, r90_36, r90_38, r90_40, r90_41, r90_44, r90_47, r90_49, r90_50, r90_53, r90_54, r90_57, r90_58, r90_59, r90_60, r90_63, r90_65, r90_66, r90_69, r90_72, r90_74, r90_75, r90_78, r90_81, r90_83, r90_84, r90_87, r90_88, r90_91, r90_94, r90_95, r90_97, r90_98, r90_99, r90_102, r90_105, r90_108, r90_109, r90_111, r90_113, r90_115, r90_118, r90_120, r90_121, r90_124, r90_125, r90_128, r90_129, r90_130, r90_131, r90_134, r90_136, r90_137, r90_140, r90_143, r90_145, r90_146, r90_147, r90_148, r90_151, r90_154, r90_156, r90_157, r90_160, r90_163, r90_164, ↓if_pos, ↓if_neg]
  | succ n ih =>
    intro L k v5 v6 J Q hL L0 hk hA hS hI hN hP h7
    push_cast at hL
    obtain ⟨A1, l1, l2, l3⟩ := x_listActs (d := d + 3) (g := g) (I := J) (lo := 0) (hi := 1024) (by omega) (by omega) (by omega) hA (fun n hn => (csn_b hg).1 (by omega))
    have hS1 : SQ A1 m Q := hS.cong (l3.2 5 (by omega)) (l3.2 6 (by omega)) (fun i => l3.1 28 i (by omega) (by omega)) (fun i => l3.1 29 i (by omega) (by omega))
    have h71 : A1 27 7 = 0 := (l3.2 7 (by omega)).trans h7
    have hA1 := (l3.sf).At hA
    have hlen := hI.len
    obtain ⟨K1, gf1, hfl⟩ := flood_loop (d := d) (L := L) (ly := (k : Int)) (c := c) v6 hg (131073 - k) k A1 Q (by omega) hk hA1 l2 hS1 hI hN hP h71
    have hfuel : flF g 131073 k Q = flF g (131073 - k) k Q ∧ flQ g 131073 k Q = flQ g (131073 - k) k Q := by
      have := fl_more hg (k := k) hI (131073 - k) (by omega) k
      rw [show 131073 - k + k = 131073 by omega] at this
      exact this
    have hpre : runs (call (d + 5)) 90 20 [vR 27, vR 2, vI c, vI k, vI L, v5, v6] [] J = runs (call (d + 5)) 90 38 [vR 27, vR 2, vI c, vI k, vI L, vI k, v6] [] A1 := by
      simp (disch := omega) only [r90_0, r90_1, r90_2, r90_5, r90_6, r90_7, r90_10, r90_13, r90_14, r90_15, r90_16, r90_17, r90_18, r90_20, r90_22, r90_23, r90_26, r90_27, r90_28, r90_29, r90_32, r90_35, r90_36, r90_40, r90_41, r90_44, r90_47, r90_49, r90_50, r90_53, r90_54, r90_57, r90_58, r90_59, r90_60, r90_63, r90_65, r90_66, r90_69, r90_72, r90_74, r90_75, r90_78, r90_81, r90_83, r90_84, r90_87, r90_88, r90_91, r90_94, r90_95, r90_97, r90_98, r90_99, r90_102, r90_105, r90_108, r90_109, r90_111, r90_113, r90_115, r90_118, r90_120, r90_121, r90_124, r90_125, r90_128, r90_129, r90_130, r90_131, r90_134, r90_136, r90_137, r90_140, r90_143, r90_145, r90_146, r90_147, r90_148, r90_151, r90_154, r90_156, r90_157, r90_160, r90_163, r90_164, ↓if_pos, ↓if_neg, l1, Option.bind_some, pushR_n]
    rw [hpre, leR, hfuel.1, hfuel.2]
    rcases hfl with ⟨f1, f2, Qf, f3⟩ | ⟨f1, f2, f3, f4, f5, f6, f7⟩
    · rw [if_pos f2]
      exact ⟨K1, l3.sf.trans gf1.sf, f1, Qf, f3⟩
    · rw [if_neg (by rw [f2]; decide), f1]
      have hAK := gf1.At hA1
      obtain ⟨A2, a1, a2, a3⟩ := x_listActs (d := d + 3) (g := g) (I := K1) (lo := 1024) (hi := 1280) (by omega) (by omega) (by omega) hAK (fun n hn => (csn_b hg).2 (by omega))
      generalize flQ g (131073 - k) k Q = Q1 at *
      have e6 := f3.n
      have hS2 : SQ A2 m Q1 := f3.cong (a3.2 5 (by omega)) (a3.2 6 (by omega)) (fun i => a3.1 28 i (by omega) (by omega)) (fun i => a3.1 29 i (by omega) (by omega))
      have h72 : A2 27 7 = 0 := (a3.2 7 (by omega)).trans ((gf1.2.1 7 (by omega) (by omega)).trans h71)
      have hA2 := (a3.sf).At hAK
      have hlen1 := f4.len
      cases n with
      | zero =>
        have hL3 : L = 3 := by omega
        subst hL3
        obtain ⟨K2, gf2, hlp⟩ := leap_loop (d := d) (L := 3) (ly := (k : Int)) (le := k) (c := c) (by omega) hg 0 k A2 Q1 (by omega) f7 hA2 a2 hS2 f4 f5 f6 h72
        rcases hlp with ⟨g1, ⟨p, p1, p2, p3, p4⟩, g3⟩ | ⟨g1, g2, g3, g4, g5⟩
        · exfalso
          exact f5 p p3 p4
        · refine ⟨K2, l3.sf.trans (gf1.sf.trans (a3.sf.trans gf2.sf)), ?_, _, g2⟩
          rw [leR]
          simp (disch := omega) only [r90_0, r90_1, r90_2, r90_5, r90_6, r90_7, r90_10, r90_13, r90_14, r90_15, r90_16, r90_17, r90_18, r90_20, r90_22, r90_23, r90_26, r90_27, r90_28, r90_29, r90_32, r90_35, r90_36, r90_38, r90_40, r90_41, r90_44, r90_47, r90_49, r90_50, r90_53, r90_54, r90_57, r90_58, r90_59, r90_60, r90_63, r90_65, r90_66, r90_69, r90_72, r90_74, r90_75, r90_78, r90_81, r90_83, r90_84, r90_87, r90_88, r90_91, r90_94, r90_95, r90_97, r90_98, r90_99, r90_102, r90_105, r90_108, r90_109, r90_113, r90_115, r90_118, r90_120, r90_121, r90_124, r90_125, r90_128, r90_129, r90_130, r90_131, r90_134, r90_136, r90_137, r90_140, r90_143, r90_145, r90_146, r90_147, r90_148, r90_151, r90_154, r90_156, r90_157, r90_160, r90_163, r90_164, ↓if_pos, ↓if_neg, a1, Option.bind_some, pushR_n]
          rw [g1]
          simp (disch := omega) only [r90_0, r90_1, r90_2, r90_5, r90_6, r90_7, r90_10, r90_13, r90_14, r90_15, r90_16, r90_17, r90_18, r90_20, r90_22, r90_23, r90_26, r90_27, r90_28, r90_29, r90_32, r90_35, r90_36, r90_38, r90_40, r90_41, r90_44, r90_47, r90_49, r90_50, r90_53, r90_54, r90_57, r90_58, r90_59, r90_60, r90_63, r90_65, r90_66, r90_69, r90_72, r90_74, r90_75, r90_78, r90_81, r90_83, r90_84, r90_87, r90_88, r90_91, r90_94, r90_95, r90_97, r90_98, r90_99, r90_102, r90_105, r90_108, r90_109, r90_111, r90_113, r90_115, r90_118, r90_120, r90_121, r90_124, r90_125, r90_128, r90_129, r90_130, r90_131, r90_134, r90_136, r90_137, r90_140, r90_143, r90_145, r90_146, r90_147, r90_148, r90_151, r90_154, r90_156, r90_157, r90_160, r90_163, r90_164, ↓if_pos, ↓if_neg, iadd_eq, Int.reduceAdd]
      | succ n =>
        obtain ⟨K2, gf2, hlp⟩ := leap_loop (d := d) (L := L) (ly := (k : Int)) (le := Q1.length) (c := c) (by omega) hg (Q1.length - k) k A2 Q1 (by omega) (Nat.le_refl _) hA2 a2 hS2 f4 f5 f6 h72
        have hmid : runs (call (d + 5)) 90 81 [vR 27, vR 2, vI c, vI k, vI L, vI (Q1.length : Int), v6] [] K1 = runs (call (d + 5)) 90 111 [vR 27, vR 2, vI c, vI k, vI L, vI (Q1.length : Int), vI k] [] A2 := by
          push_cast at hL
          simp (disch := omega) only [r90_0, r90_1, r90_2, r90_5, r90_6, r90_7, r90_10, r90_13, r90_14, r90_15, r90_16, r90_17, r90_18, r90_20, r90_22, r90_23, r90_26, r90_27, r90_28, r90_29, r90_32, r90_35, r90_36, r90_38, r90_40, r90_41, r90_44, r90_47, r90_49, r90_50, r90_53, r90_54, r90_57, r90_58, r90_59, r90_60, r90_63, r90_65, r90_66, r90_69, r90_72, r90_74, r90_75, r90_78, r90_81, r90_83, r90_84, r90_87, r90_88, r90_91, r90_94, r90_95, r90_97, r90_98, r90_99, r90_102, r90_105, r90_108, r90_109, r90_113, r90_115, r90_118, r90_120, r90_121, r90_124, r90_125, r90_128, r90_129, r90_130, r90_131, r90_134, r90_136, r90_137, r90_140, r90_143, r90_145, r90_146, r90_147, r90_148, r90_151, r90_154, r90_156, r90_157, r90_160, r90_163, r90_164, ↓if_pos, ↓if_neg, e6, a1, Option.bind_some, pushR_n]
        rw [hmid]
        rcases hlp with ⟨g1, ⟨p, p1, p2, p3, p4⟩, Qf, g3⟩ | ⟨g1, g2, g3, g4, g5⟩
        · refine ⟨K2, l3.sf.trans (gf1.sf.trans (a3.sf.trans gf2.sf)), ?_, Qf, g3⟩
          rw [g1, leR, if_pos (flF_true 131073 Q1.length p _ p1 (by omega) p3 p4)]
        · obtain ⟨T, hT⟩ := lex_pre g (Q1.length - k) k Q1
          obtain ⟨K3, s3, k1, k2⟩ := ih (L + 1) Q1.length (vI (Q1.length : Int)) (vI (Q1.length : Int)) K2 (lex g (Q1.length - k) k Q1) (by omega) (by omega) (by rw [hT, List.length_append]; omega) (gf2.At hA2) g2 g3 g4 g5 ((gf2.2.1 7 (by omega) (by omega)).trans h72)
          refine ⟨K3, l3.sf.trans (gf1.sf.trans (a3.sf.trans (gf2.sf.trans s3))), ?_, k2⟩
          rw [g1, ← k1]
          push_cast at hL
          simp (disch := omega) only [r90_0, r90_1, r90_2, r90_5, r90_6, r90_7, r90_10, r90_13, r90_14, r90_15, r90_16, r90_17, r90_18, r90_22, r90_23, r90_26, r90_27, r90_28, r90_29, r90_32, r90_35, r90_36, r90_38, r90_40, r90_41, r90_44, r90_47, r90_49, r90_50, r90_53, r90_54, r90_57, r90_58, r90_59, r90_60, r90_63, r90_65, r90_66, r90_69, r90_72, r90_74, r90_75, r90_78, r90_81, r90_83, r90_84, r90_87, r90_88, r90_91, r90_94, r90_95, r90_97, r90_98, r90_99, r90_102, r90_105, r90_108, r90_109, r90_111, r90_113, r90_115, r90_118, r90_120, r90_121, r90_124, r90_125, r90_128, r90_129, r90_130, r90_131, r90_134, r90_136, r90_137, r90_140, r90_143, r90_145, r90_146, r90_147, r90_148, r90_151, r90_154, r90_156, r90_157, r90_160, r90_163, r90_164, iadd_eq]
end
