/-! write, from, read of the class once more, telling apart what was refused. -/
def QRead2 (I : MM) (s s' : ST) (J : MM) : Prop := (SC0 J ∧ ∀ i, i ≠ 10 → J 27 i = I 27 i) ∨ ((∀ a, a ≠ 1 → a ≠ 20 → ¬ (10 ≤ a ∧ a < 18) → ∀ i, J a i = I a i) ∧ gg s' = gg s ∧ cd s' = cd s)
section
variable {d : Nat} {I J K : MM} {s : ST} {g : G} {a c w x y b p v i : Int}
theorem X_write2 (hX : XR I s) (hO : OK s) : XQ (d + 2) 125 [vI c] [1, 21, 22] I (aWrite s c) (sWrite s c) (fun J => J 21 6 = 0 ∨ ((∀ a, a ≠ 1 → ∀ i, J a i = I a i) ∧ sWrite s c 3 2 = s 3 2)) := by
  have hz := hO.rsz; obtain ⟨e, e2⟩ := hX.R
  unfold aWrite sWrite
  by_cases h : 0 ≤ c ∧ c ≤ 127
  · rw [if_pos h, if_pos h]
    by_cases h4 : 40 ≤ s 3 2 (-1)
    · rw [if_pos h4, if_pos h4]
      refine ⟨xbump I 2, ?_, hX.bump (by omega), fun a ha i => xbump_o (fun q => ha (by simp [q])) i, Or.inr ⟨fun a ha i => xbump_o ha i, rfl⟩⟩
      rw [en125]; simp (disch := omega) only [r125_0, r125_1, r125_4, r125_5, r125_7, r125_10, r125_11, r125_13, r125_15, r125_18, r125_19, r125_20, r125_23, r125_26, r125_28, r125_31, r125_32, r125_34, r125_36, r125_39, r125_40, r125_41, r125_44, r125_45, r125_48, r125_49, r125_52, r125_55, ↓if_pos, ↓if_neg, x_full, Option.bind_some, pushR_s]
    · rw [if_neg h4, if_neg h4]
      have o : OUT [21, 22] I (mset (mset (mset I 22 (s 3 2 (-1)) c) 21 1 (s 3 2 (-1) + 1)) 21 6 0) := ((OUT.mset (l := [21, 22]) _ _ (by decide)).trans (OUT.mset _ _ (by decide))).trans (OUT.mset _ _ (by decide))
      have hE : call (d + 1) 59 [vR 21, vI c] I = some (none, mset (mset (mset I 22 (s 3 2 (-1)) c) 21 1 (s 3 2 (-1) + 1)) 21 6 0) := by
        rw [en59]; simp (disch := omega) only [r59_0, r59_1, r59_4, r59_6, r59_9, r59_10, r59_13, r59_14, r59_17, r59_18, r59_19, r59_20, r59_21, r59_24, r59_25, r59_26, r59_29, r59_30, r59_31, r59_34, ↓if_pos, ↓if_neg, e, iadd_eq, mset_at]
      refine ⟨_, ?_, ?_, o.mono (by simp), Or.inl (by simp [mset_at])⟩
      · rw [en125]; simp (disch := omega) only [r125_0, r125_1, r125_4, r125_5, r125_7, r125_10, r125_11, r125_13, r125_15, r125_18, r125_19, r125_20, r125_23, r125_26, r125_28, r125_31, r125_32, r125_34, r125_36, r125_39, r125_40, r125_41, r125_44, r125_45, r125_48, r125_49, r125_52, r125_55, ↓if_pos, ↓if_neg, hE, Option.bind_some, pushR_n, mset_at]
      · refine hX.rule o ⟨by simp [mset_at, atm], fun i i0 i1 => ?_⟩
        simp only [atm, if_true] at i1
        by_cases hi : i = s 3 2 (-1)
        · subst hi; simp [mset_at, atm]; intro; omega
        · have := e2 i i0 (by omega)
          simp only [mset_at, atm]
          rw [if_neg (by omega), if_neg (by omega), if_neg (by omega), if_neg (by omega), if_neg hi]; exact this
  · rw [if_neg h, if_neg h]
    refine ⟨xbump I 0, ?_, hX.bump (by omega), fun a ha i => xbump_o (fun q => ha (by simp [q])) i, Or.inr ⟨fun a ha i => xbump_o ha i, rfl⟩⟩
    rw [en125]
    by_cases q : c < 0 <;> simp (disch := omega) only [r125_0, r125_1, r125_4, r125_5, r125_7, r125_10, r125_11, r125_13, r125_15, r125_18, r125_19, r125_20, r125_23, r125_26, r125_28, r125_31, r125_32, r125_34, r125_36, r125_39, r125_40, r125_41, r125_44, r125_45, r125_48, r125_49, r125_52, r125_55, ↓if_pos, ↓if_neg, x_bad, Option.bind_some, pushR_s]
theorem X_from2 (hX : XR I s) (hO : OK s) : XQ (d + 3) 133 [vI i] [1, 2, 3, 4, 5, 6, 7, 8, 9, 21, 22, 25, 26, 27, 32, 33] I (aFrom s i) (sFrom s i) (fun J => (SC0 J ∧ (∀ i, i ≠ 10 → J 27 i = I 27 i) ∧ J 21 6 = 0) ∨ ((∀ a, a ≠ 1 → ∀ i, J a i = I a i) ∧ gg (sFrom s i) = gg s ∧ cd (sFrom s i) = cd s ∧ sFrom s i 3 2 = s 3 2)) := by
  obtain ⟨-, -, -, -, hI0, hI1⟩ := hO
  unfold aFrom sFrom
  by_cases h : kImg i
  · rw [if_pos h, if_pos h]
    have : i = 0 ∨ i = 1 := by omega
    rcases this with rfl | rfl
    · have e : isK s 0 = s 4 6 0 := if_pos rfl
      have e0 : I 40 0 = s 4 6 0 := hX.I0.1
      rw [e]
      by_cases h0 : s 4 6 0 = 0
      · rw [if_pos h0, if_pos h0]
        refine ⟨xbump I 1, ?_, hX.bump (by omega), fun a ha i => xbump_o (fun q => ha (by simp [q])) i, Or.inr ⟨fun a ha i => xbump_o ha i, rfl, rfl, rfl⟩⟩
        rw [en133]
        simp (disch := omega) only [r133_0, r133_1, r133_4, r133_5, r133_6, r133_9, r133_10, r133_12, r133_14, r133_17, r133_18, r133_19, r133_20, r133_23, r133_23a, r133_24, r133_24a, r133_25, r133_25a, r133_28, r133_31, r133_32, r133_34, r133_36, r133_39, r133_40, r133_41, r133_44, r133_44a, r133_45, r133_45a, r133_48, r133_48a, r133_51, r133_52, r133_55, r133_55a, r133_56, r133_56a, r133_59, r133_59a, r133_62, r133_63, r133_66, r133_66a, r133_67, r133_67a, r133_70, r133_70a, r133_73, r133_74, r133_77, r133_80, r133_81, ↓if_pos, ↓if_neg, x_imageOf0, x_no, Option.bind_some, pushR_s]
      · rw [if_neg h0, if_neg h0, takeI_0]
        have h1 := hI0.1.resolve_left h0
        obtain ⟨b1, b2, b3⟩ := memFr_X (by omega) hX.I0 h1 (hI0.2 h1).2.2.1.2 (hI0.2 h1).2.2.2.2.1.2
        refine ⟨memFr 40 I, ?_, ⟨b1, hX.T.cong (memFr_o (by omega) _) (memFr_o (by omega)), b2, b3, hX.C.cong (fun i _ => memFr_o1 i), hX.F.cong (memFr_o (by omega)) (memFr_o (by omega)) (memFr_o (by omega) _) (memFr_o (by omega) _), hX.I0.cong (fun a a1 a2 i => memFr_o (by omega) i), hX.I1.cong (fun a a1 a2 i => memFr_o (by omega) i), hX.K.cong (memFr_o (by omega)) (memFr_o (by omega))⟩, fun k hk i => ?_, Or.inl (memFr_Q 40 I)⟩
        · rw [en133]
          simp (disch := omega) only [r133_0, r133_1, r133_4, r133_5, r133_6, r133_9, r133_10, r133_12, r133_14, r133_17, r133_18, r133_19, r133_20, r133_23, r133_23a, r133_24, r133_24a, r133_25, r133_25a, r133_28, r133_31, r133_32, r133_34, r133_36, r133_39, r133_40, r133_41, r133_44, r133_44a, r133_45, r133_45a, r133_48, r133_48a, r133_51, r133_52, r133_55, r133_55a, r133_56, r133_56a, r133_59, r133_59a, r133_62, r133_63, r133_66, r133_66a, r133_67, r133_67a, r133_70, r133_70a, r133_73, r133_74, r133_77, r133_80, r133_81, ↓if_pos, ↓if_neg, x_imageOf0, x_copyB_2_41, x_copyR_21_49, x_copyP_25_53, x_forget, Option.bind_some, pushR_s, pushR_n]
          rfl
        · simp at hk
          by_cases k0 : k = 0
          · subst k0; rw [memFr, memF_o (by omega) (by omega) (by omega), memCP_o (by omega), memCR_o (by omega), memCB_o (by omega)]
          · exact memFr_o (by omega) i
    · have e : isK s 1 = s 5 6 0 := if_neg (by decide)
      have e0 : I 55 0 = s 5 6 0 := hX.I1.1
      rw [e]
      by_cases h0 : s 5 6 0 = 0
      · rw [if_pos h0, if_pos h0]
        refine ⟨xbump I 1, ?_, hX.bump (by omega), fun a ha i => xbump_o (fun q => ha (by simp [q])) i, Or.inr ⟨fun a ha i => xbump_o ha i, rfl, rfl, rfl⟩⟩
        rw [en133]
        simp (disch := omega) only [r133_0, r133_1, r133_4, r133_5, r133_6, r133_9, r133_10, r133_12, r133_14, r133_17, r133_18, r133_19, r133_20, r133_23, r133_23a, r133_24, r133_24a, r133_25, r133_25a, r133_28, r133_31, r133_32, r133_34, r133_36, r133_39, r133_40, r133_41, r133_44, r133_44a, r133_45, r133_45a, r133_48, r133_48a, r133_51, r133_52, r133_55, r133_55a, r133_56, r133_56a, r133_59, r133_59a, r133_62, r133_63, r133_66, r133_66a, r133_67, r133_67a, r133_70, r133_70a, r133_73, r133_74, r133_77, r133_80, r133_81, ↓if_pos, ↓if_neg, x_imageOf1, x_no, Option.bind_some, pushR_s]
      · rw [if_neg h0, if_neg h0, takeI_1]
        have h1 := hI1.1.resolve_left h0
        obtain ⟨b1, b2, b3⟩ := memFr_X (by omega) hX.I1 h1 (hI1.2 h1).2.2.1.2 (hI1.2 h1).2.2.2.2.1.2
        refine ⟨memFr 55 I, ?_, ⟨b1, hX.T.cong (memFr_o (by omega) _) (memFr_o (by omega)), b2, b3, hX.C.cong (fun i _ => memFr_o1 i), hX.F.cong (memFr_o (by omega)) (memFr_o (by omega)) (memFr_o (by omega) _) (memFr_o (by omega) _), hX.I0.cong (fun a a1 a2 i => memFr_o (by omega) i), hX.I1.cong (fun a a1 a2 i => memFr_o (by omega) i), hX.K.cong (memFr_o (by omega)) (memFr_o (by omega))⟩, fun k hk i => ?_, Or.inl (memFr_Q 55 I)⟩
        · rw [en133]
          simp (disch := omega) only [r133_0, r133_1, r133_4, r133_5, r133_6, r133_9, r133_10, r133_12, r133_14, r133_17, r133_18, r133_19, r133_20, r133_23, r133_23a, r133_24, r133_24a, r133_25, r133_25a, r133_28, r133_31, r133_32, r133_34, r133_36, r133_39, r133_40, r133_41, r133_44, r133_44a, r133_45, r133_45a, r133_48, r133_48a, r133_51, r133_52, r133_55, r133_55a, r133_56, r133_56a, r133_59, r133_59a, r133_62, r133_63, r133_66, r133_66a, r133_67, r133_67a, r133_70, r133_70a, r133_73, r133_74, r133_77, r133_80, r133_81, ↓if_pos, ↓if_neg, x_imageOf1, x_copyB_2_56, x_copyR_21_64, x_copyP_25_68, x_forget, Option.bind_some, pushR_s, pushR_n]
          rfl
        · simp at hk
          by_cases k0 : k = 0
          · subst k0; rw [memFr, memF_o (by omega) (by omega) (by omega), memCP_o (by omega), memCR_o (by omega), memCB_o (by omega)]
          · exact memFr_o (by omega) i
  · rw [if_neg h, if_neg h]
    refine ⟨xbump I 0, ?_, hX.bump (by omega), fun a ha i => xbump_o (fun q => ha (by simp [q])) i, Or.inr ⟨fun a ha i => xbump_o ha i, rfl, rfl, rfl⟩⟩
    rw [en133]
    by_cases q : i < 0 <;> simp (disch := omega) only [r133_0, r133_1, r133_4, r133_5, r133_6, r133_9, r133_10, r133_12, r133_14, r133_17, r133_18, r133_19, r133_20, r133_23, r133_23a, r133_24, r133_24a, r133_25, r133_25a, r133_28, r133_31, r133_32, r133_34, r133_36, r133_39, r133_40, r133_41, r133_44, r133_44a, r133_45, r133_45a, r133_48, r133_48a, r133_51, r133_52, r133_55, r133_55a, r133_56, r133_56a, r133_59, r133_59a, r133_62, r133_63, r133_66, r133_66a, r133_67, r133_67a, r133_70, r133_70a, r133_73, r133_74, r133_77, r133_80, r133_81, ↓if_pos, ↓if_neg, x_bad, Option.bind_some, pushR_s]
theorem X_read2 (hX : XR I s) (hO : OK s) : ∃ g0 : G, XQ (d + 8) 111 [] [1, 2, 3, 4, 5, 6, 7, 8, 9, 10, 11, 12, 13, 14, 15, 16, 17, 20, 25, 27, 32, 33] I (aRead s g0) (sRead s g0) (fun J => QRead2 I s (sRead s g0) J) := by
  have hn := hO.2.1
  have hA0 : At 10 I (gOf 10 I) := fun j i hj hr => by
    unfold gOf
    rw [if_neg]
    rintro ⟨rfl, rfl⟩
    simp [rng] at hr
  obtain ⟨J, c1, b1, e1, f1⟩ := x_readInto (d := d) hA0 hX.T hn
  obtain ⟨k1, k2⟩ := rdL_ok (t := s 3 1) 201 0 (rstG (gOf 10 I) 7) 0 0 (WG_rst (by omega)) (VN_rst (by omega)) (by omega)
  refine ⟨gOf 10 I, ?_⟩
  unfold aRead sRead
  rw [show rdL (s 3 1) 201 0 (rstG (gOf 10 I) 7) 0 0 = rdT s (gOf 10 I) from rfl] at *
  generalize rdT s (gOf 10 I) = r at *
  have hf : ∀ a, a ≠ 20 → ¬ (10 ≤ a ∧ a < 18) → ∀ i, J a i = I a i := fun a h1 h2 i => f1 a i (by omega) h2
  have hXJ : XR J s := ⟨hX.B.cong (fun a _ _ i => hf a (by omega) (by omega) i), hX.T.cong (hf _ (by omega) (by omega) _) (hf _ (by omega) (by omega)), hX.R.cong (hf _ (by omega) (by omega) _) (hf _ (by omega) (by omega)), hX.P.cong (hf _ (by omega) (by omega) _) (hf _ (by omega) (by omega)), hX.C.cong (fun i _ => hf _ (by omega) (by omega) i), hX.F.cong (hf _ (by omega) (by omega)) (hf _ (by omega) (by omega)) (hf _ (by omega) (by omega) _) (hf _ (by omega) (by omega) _), hX.I0.cong (fun a _ _ i => hf a (by omega) (by omega) i), hX.I1.cong (fun a _ _ i => hf a (by omega) (by omega) i), hX.K.cong (hf _ (by omega) (by omega)) (hf _ (by omega) (by omega))⟩
  by_cases h1 : r.2.1 < 0
  · rw [if_pos h1, if_pos h1]
    refine ⟨J, ?_, hXJ, fun a ha i => hf a (fun q => ha (by simp [q])) (fun q => ha (by simp; omega)) i, Or.inr ⟨fun a _ a2 a3 i => hf a a2 a3 i, rfl, rfl⟩⟩
    rw [en111]
    simp (disch := omega) only [r111_0, r111_1, r111_4, r111_5, r111_8, r111_11, r111_12, r111_13, r111_16, r111_18, r111_19, r111_22, r111_25, r111_26, r111_27, r111_28, r111_31, r111_32, r111_35, r111_38, r111_41, r111_44, r111_45, r111_47, r111_49, r111_52, r111_53, r111_54, r111_57, r111_58, r111_61, r111_64, r111_65, r111_68, r111_69, r111_72, r111_73, r111_76, r111_79, r111_80, c1, e1, ↓if_pos, ↓if_neg, Option.bind_some, pushR_s]
  · rw [if_neg h1, if_neg h1]
    have hw := x_isWell' (d := d + 4) b1.1 k1 k2.1.1
    have n4 : J 10 4 = r.1.2 := b1.2
    by_cases h2 : well r.1.1 r.1.2
    · rw [if_pos h2] at hw
      rw [if_pos h2, if_pos h2]
      have hB2 := memCB_BX (a := 2) (b := 10) (I := J) (by omega) b1
      have ho : ∀ a, ¬ (2 ≤ a ∧ a < 10) → a ≠ 25 → a ≠ 27 → a ≠ 32 → a ≠ 33 → ∀ i, memF (mset (memCB 2 10 J) 25 1 0) a i = J a i := fun a q1 q2 q3 q4 q5 i => by
        rw [memF_o q3 q4 q5, mset_at, if_neg (by omega), memCB_o (by omega)]
      refine ⟨memF (mset (memCB 2 10 J) 25 1 0), ?_, ⟨?_, hXJ.T.cong (ho _ (by omega) (by omega) (by omega) (by omega) (by omega) _) (ho _ (by omega) (by omega) (by omega) (by omega) (by omega)), hXJ.R.cong (ho _ (by omega) (by omega) (by omega) (by omega) (by omega) _) (ho _ (by omega) (by omega) (by omega) (by omega) (by omega)), ?_, hXJ.C.cong (fun i _ => ho _ (by omega) (by omega) (by omega) (by omega) (by omega) i), hXJ.F.cong (ho _ (by omega) (by omega) (by omega) (by omega) (by omega)) (ho _ (by omega) (by omega) (by omega) (by omega) (by omega)) (ho _ (by omega) (by omega) (by omega) (by omega) (by omega) _) (ho _ (by omega) (by omega) (by omega) (by omega) (by omega) _), hXJ.I0.cong (fun a _ _ i => ho a (by omega) (by omega) (by omega) (by omega) (by omega) i), hXJ.I1.cong (fun a _ _ i => ho a (by omega) (by omega) (by omega) (by omega) (by omega) i), hXJ.K.cong (ho _ (by omega) (by omega) (by omega) (by omega) (by omega)) (ho _ (by omega) (by omega) (by omega) (by omega) (by omega))⟩, fun a ha i => ?_, Or.inl ⟨memF_SC0 _, fun i hi => ?_⟩⟩
      · rw [en111]
        simp (disch := omega) only [r111_0, r111_1, r111_4, r111_5, r111_8, r111_11, r111_12, r111_13, r111_16, r111_18, r111_19, r111_22, r111_25, r111_26, r111_27, r111_28, r111_31, r111_32, r111_35, r111_38, r111_41, r111_44, r111_45, r111_47, r111_49, r111_52, r111_53, r111_54, r111_57, r111_58, r111_61, r111_64, r111_65, r111_68, r111_69, r111_72, r111_73, r111_76, r111_79, r111_80, c1, n4, hw, x_copyB_2_10, x_forget, ↓if_pos, ↓if_neg, Option.bind_some, pushR_s, pushR_n]
      · exact BX.cong (I := memCB 2 10 J) (fun a _ _ i => by rw [memF_o (by omega) (by omega) (by omega), mset_at, if_neg (by omega)]) hB2
      · refine ⟨by rw [memF_o (by omega) (by omega) (by omega), mset_at, if_pos ⟨rfl, rfl⟩]; rfl, fun i i0 i1 => ?_⟩
        have : i < 0 := i1
        omega
      · simp at ha
        exact (ho a (by omega) (by omega) (by omega) (by omega) (by omega) i).trans (hf a (by omega) (by omega) i)
      · rw [memF_5 _ hi, mset_at, if_neg (by omega), memCB_o (by omega)]
        exact hf 27 (by omega) (by omega) i
    · rw [if_neg h2] at hw
      rw [if_neg h2, if_neg h2]
      refine ⟨xbump J 1, ?_, hXJ.bump (by omega), fun a ha i => (xbump_o (fun q => ha (by simp [q])) i).trans (hf a (fun q => ha (by simp [q])) (fun q => ha (by simp; omega)) i), Or.inr ⟨fun a a1 a2 a3 i => (xbump_o a1 i).trans (hf a a2 a3 i), rfl, rfl⟩⟩
      rw [en111]
      simp (disch := omega) only [r111_0, r111_1, r111_4, r111_5, r111_8, r111_11, r111_12, r111_13, r111_16, r111_18, r111_19, r111_22, r111_25, r111_26, r111_27, r111_28, r111_31, r111_32, r111_35, r111_38, r111_41, r111_44, r111_45, r111_47, r111_49, r111_52, r111_53, r111_54, r111_57, r111_58, r111_61, r111_64, r111_65, r111_68, r111_69, r111_72, r111_73, r111_76, r111_79, r111_80, c1, n4, hw, x_no, ↓if_pos, ↓if_neg, Option.bind_some, pushR_s]
end
